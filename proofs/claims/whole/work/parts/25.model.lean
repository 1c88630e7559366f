abbrev M_X11_within : z_M := (RX11, yX11_within, cX11_within, 6, some .boolean)
theorem mo_X11_within : z_mo M_X11_within 3 := ⟨tb_187, tb_5, rfl, ⟨by decide +kernel, by decide +kernel⟩, by decide +kernel, by decide⟩
theorem ms_X11_within : z_ms M_X11_within := tb_186
def f_X11_within (a0 : Int64) (a1 : Int64) (a2 : Int64) (S : z_Stt) : Option (Bool × z_Stt) :=
  if lg_cmp a0 a1 < 0 then
    some (false, S)
  else
    if 0 < lg_cmp a0 a2 then
      some (false, S)
    else
      some (true, S)
set_option maxHeartbeats 4000000 in
set_option maxRecDepth 100000 in
theorem t_X11_within {g : z_G} {K : z_K} {v : Bool} {S' : z_Stt} (cx : z_C g M_X11_within 0 K) (ce : z_E' g M_X11_within (z_P g (some (.int (bI v))) S') K) (a0 : Int64) (a1 : Int64) (a2 : Int64) (S : z_Stt) (h : f_X11_within a0 a1 a2 S = some (v, S')) : z_At g M_X11_within K 0 [some (.long a0), none, some (.long a1), none, some (.long a2), none] [] (hp g S) := by
  unfold f_X11_within at h
  refine z_lload_n cx rfl rfl dX11_within_0 ?_
  refine z_lload_n cx rfl rfl dX11_within_1 ?_
  refine z_lcmp cx dX11_within_2 ?_
  refine z_if_lt (tgt := 17) cx (by decide) dX11_within_3 (fun c1 => ?_) (fun c1 => ?_)
  · have h := g_t c1 h
    refine z_iconst (v := 0) cx (by decide +kernel) dX11_within_17 ?_
    obtain ⟨rfl, rfl⟩ := g_some h
    exact z_zreturn cx ce rfl (by decide +kernel) ⟨rfl, rfl⟩ dX11_within_18
  · have h := g_f c1 h
    refine z_lload_n cx rfl rfl dX11_within_6 ?_
    refine z_lload cx rfl dX11_within_7 ?_
    refine z_lcmp cx dX11_within_9 ?_
    refine z_if_gt (tgt := 17) cx (by decide) dX11_within_10 (fun c2 => ?_) (fun c2 => ?_)
    · have h := g_t c2 h
      refine z_iconst (v := 0) cx (by decide +kernel) dX11_within_17 ?_
      obtain ⟨rfl, rfl⟩ := g_some h
      exact z_zreturn cx ce rfl (by decide +kernel) ⟨rfl, rfl⟩ dX11_within_18
    · have h := g_f c2 h
      refine z_iconst (v := 1) cx (by decide +kernel) dX11_within_13 ?_
      refine z_goto (tgt := 18) cx (by decide) dX11_within_14 ?_
      obtain ⟨rfl, rfl⟩ := g_some h
      exact z_zreturn cx ce rfl (by decide +kernel) ⟨rfl, rfl⟩ dX11_within_18
theorem c_X11_within {g : z_G} (a0 : Int64) (a1 : Int64) (a2 : Int64) (S : z_Stt) {v : Bool} {S' : z_Stt} (h : f_X11_within a0 a1 a2 S = some (v, S')) : z_Ct g M_X11_within 0 [.long a0, .long a1, .long a2] (hp g S) (z_P g (some (.int (bI v))) S') :=
  z_Ct.of (by decide +kernel) rfl (Nat.le_of_ble_eq_true rfl) (fun K cx ce => q_weak (L' := [some (.long a0), none, some (.long a1), none, some (.long a2), none]) (z_wk_s (z_wk_n (z_wk_s (z_wk_n (z_wk_s (z_wk_n (z_wk_0))))))) (t_X11_within cx ce a0 a1 a2 S h))
abbrev M_X11_isIn : z_M := (RX11, yX11_isIn, cX11_isIn, 2, some .boolean)
theorem mo_X11_isIn : z_mo M_X11_isIn 2 := ⟨tb_647, tb_5, rfl, ⟨by decide +kernel, by decide +kernel⟩, by decide +kernel, by decide⟩
theorem ms_X11_isIn : z_ms M_X11_isIn := tb_646
def f_X11_isIn (a0 : Int32) (a1 : Int32) (S : z_Stt) : Option (Bool × z_Stt) :=
  if (a0 >>> (a1 &&& 31)) &&& 1 = 1 then
    some (true, S)
  else
    some (false, S)
set_option maxHeartbeats 4000000 in
set_option maxRecDepth 100000 in
theorem t_X11_isIn {g : z_G} {K : z_K} {v : Bool} {S' : z_Stt} (cx : z_C g M_X11_isIn 0 K) (ce : z_E' g M_X11_isIn (z_P g (some (.int (bI v))) S') K) (a0 : Int32) (a1 : Int32) (S : z_Stt) (h : f_X11_isIn a0 a1 S = some (v, S')) : z_At g M_X11_isIn K 0 [some (.int a0), some (.int a1)] [] (hp g S) := by
  unfold f_X11_isIn at h
  refine z_iload_n cx rfl rfl dX11_isIn_0 ?_
  refine z_iload_n cx rfl rfl dX11_isIn_1 ?_
  refine z_ishr cx dX11_isIn_2 ?_
  refine z_iconst (v := 1) cx (by decide +kernel) dX11_isIn_3 ?_
  refine z_iand cx dX11_isIn_4 ?_
  refine z_iconst (v := 1) cx (by decide +kernel) dX11_isIn_5 ?_
  refine z_icmp_ne (tgt := 13) cx (by decide) dX11_isIn_6 (fun c1 => ?_) (fun c1 => ?_)
  · have h := g_f c1 h
    refine z_iconst (v := 0) cx (by decide +kernel) dX11_isIn_13 ?_
    obtain ⟨rfl, rfl⟩ := g_some h
    exact z_zreturn cx ce rfl (by decide +kernel) ⟨rfl, rfl⟩ dX11_isIn_14
  · have h := g_t c1 h
    refine z_iconst (v := 1) cx (by decide +kernel) dX11_isIn_9 ?_
    refine z_goto (tgt := 14) cx (by decide) dX11_isIn_10 ?_
    obtain ⟨rfl, rfl⟩ := g_some h
    exact z_zreturn cx ce rfl (by decide +kernel) ⟨rfl, rfl⟩ dX11_isIn_14
theorem c_X11_isIn {g : z_G} (a0 : Int32) (a1 : Int32) (S : z_Stt) {v : Bool} {S' : z_Stt} (h : f_X11_isIn a0 a1 S = some (v, S')) : z_Ct g M_X11_isIn 0 [.int a0, .int a1] (hp g S) (z_P g (some (.int (bI v))) S') :=
  z_Ct.of (by decide +kernel) rfl (Nat.le_of_ble_eq_true rfl) (fun K cx ce => q_weak (L' := [some (.int a0), some (.int a1)]) (z_wk_s (z_wk_s (z_wk_0))) (t_X11_isIn cx ce a0 a1 S h))
abbrev M_X11_bitsOf : z_M := (RX11, yX11_bitsOf, cX11_bitsOf, 3, some .int)
theorem mo_X11_bitsOf : z_mo M_X11_bitsOf 1 := ⟨tb_640, tb_5, rfl, ⟨by decide +kernel, by decide +kernel⟩, by decide +kernel, by decide⟩
theorem ms_X11_bitsOf : z_ms M_X11_bitsOf := tb_639
def f_X11_bitsOf_4 (n : Nat) : Nat → Int32 → Int32 → z_Stt → Option (Int32 × z_Stt)
  | 0, _, _, _ => none
  | m + 1, x1, x2, S =>
    if x2 = 0 then
      some (x1, S)
    else
      f_X11_bitsOf_4 n m (x1 + 1) (x2 &&& (x2 - 1)) S
set_option maxHeartbeats 4000000 in
set_option maxRecDepth 100000 in
theorem t_X11_bitsOf_4 {g : z_G} {K : z_K} (n : Nat) {v : Int32} {S' : z_Stt} (cx : z_C g M_X11_bitsOf 0 K) (ce : z_E' g M_X11_bitsOf (z_P g (some (.int v)) S') K) : ∀ (m : Nat) (x1 : Int32) (x2 : Int32) (S : z_Stt) (h : f_X11_bitsOf_4 n m x1 x2 S = some (v, S')), z_At g M_X11_bitsOf K 4 [none, some (.int x1), some (.int x2)] [] (hp g S) := by
  intro m
  induction m with
  | zero => intro x1 x2 S h; simp [f_X11_bitsOf_4] at h
  | succ m ih =>
    intro x1 x2 S h
    rw [f_X11_bitsOf_4] at h
    refine z_iload_n cx rfl rfl dX11_bitsOf_4 ?_
    refine z_if_eq (tgt := 20) cx (by decide) dX11_bitsOf_5 (fun c1 => ?_) (fun c1 => ?_)
    · have h := g_t c1 h
      refine z_iload_n cx rfl rfl dX11_bitsOf_20 ?_
      obtain ⟨rfl, rfl⟩ := g_some h
      exact z_ireturn cx ce rfl ⟨rfl, rfl⟩ dX11_bitsOf_21
    · have h := g_f c1 h
      refine z_iinc (c := 1) (L' := [none, some (.int (x1 + 1)), some (.int x2)]) cx rfl (by decide +kernel) (by decide) rfl dX11_bitsOf_8 ?_
      refine z_iload_n cx rfl rfl dX11_bitsOf_11 ?_
      refine z_iload_n cx rfl rfl dX11_bitsOf_12 ?_
      refine z_iconst (v := 1) cx (by decide +kernel) dX11_bitsOf_13 ?_
      refine z_isub cx dX11_bitsOf_14 ?_
      refine z_iand cx dX11_bitsOf_15 ?_
      refine z_istore_n (L' := [none, some (.int (x1 + 1)), some (.int (x2 &&& (x2 - 1)))]) cx rfl (by decide) rfl dX11_bitsOf_16 ?_
      refine z_goto (tgt := 4) cx (by decide) dX11_bitsOf_17 ?_
      exact q_weak (z_wk_n (z_wk_s (z_wk_s (z_wk_0)))) (ih (x1 + 1) (x2 &&& (x2 - 1)) S h)
def f_X11_bitsOf (n : Nat) (a0 : Int32) (S : z_Stt) : Option (Int32 × z_Stt) :=
  f_X11_bitsOf_4 n n 0 a0 S
set_option maxHeartbeats 4000000 in
set_option maxRecDepth 100000 in
theorem t_X11_bitsOf {g : z_G} {K : z_K} (n : Nat) {v : Int32} {S' : z_Stt} (cx : z_C g M_X11_bitsOf 0 K) (ce : z_E' g M_X11_bitsOf (z_P g (some (.int v)) S') K) (a0 : Int32) (S : z_Stt) (h : f_X11_bitsOf n a0 S = some (v, S')) : z_At g M_X11_bitsOf K 0 [some (.int a0), none, none] [] (hp g S) := by
  unfold f_X11_bitsOf at h
  refine z_iconst (v := 0) cx (by decide +kernel) dX11_bitsOf_0 ?_
  refine z_istore_n (L' := [some (.int a0), some (.int 0), none]) cx rfl (by decide) rfl dX11_bitsOf_1 ?_
  refine z_iload_n cx rfl rfl dX11_bitsOf_2 ?_
  refine z_istore_n (L' := [some (.int a0), some (.int 0), some (.int a0)]) cx rfl (by decide) rfl dX11_bitsOf_3 ?_
  exact q_weak (z_wk_n (z_wk_s (z_wk_s (z_wk_0)))) (t_X11_bitsOf_4 n cx ce n 0 a0 S h)
theorem c_X11_bitsOf {g : z_G} {n : Nat} (a0 : Int32) (S : z_Stt) {v : Int32} {S' : z_Stt} (h : f_X11_bitsOf n a0 S = some (v, S')) : z_Ct g M_X11_bitsOf 0 [.int a0] (hp g S) (z_P g (some (.int v)) S') :=
  z_Ct.of (by decide +kernel) rfl (Nat.le_of_ble_eq_true rfl) (fun K cx ce => q_weak (L' := [some (.int a0), none, none]) (z_wk_s (z_wk_e (z_wk_e (z_wk_0)))) (t_X11_bitsOf n cx ce a0 S h))
abbrev M_X11_becomes : z_M := (RX11, yX11_becomes, cX11_becomes, 5, some .int)
theorem mo_X11_becomes : z_mo M_X11_becomes 2 := ⟨tb_293, tb_5, rfl, ⟨by decide +kernel, by decide +kernel⟩, by decide +kernel, by decide⟩
theorem mv_X11_becomes : z_mv M_X11_becomes := ⟨tb_291, tb_292⟩
def f_X11_becomes_97 (n : Nat) (x1 : Int32) (x2 : Int32) (x3 : Int32) (S : z_Stt) : Option (Int32 × z_Stt) :=
  if ¬ (S.1 4805 < 0 ∨ 40 ≤ (S.1 4805).toNatClampNeg) then
    g_let (sA S 50 (upd (S.2.2.1 50) (S.1 4805).toNatClampNeg x1)) fun S2 =>
    if ¬ (S2.1 4805 < 0 ∨ 40 ≤ (S2.1 4805).toNatClampNeg) then
      g_let (sA S2 51 (upd (S2.2.2.1 51) (S2.1 4805).toNatClampNeg x3)) fun S5 =>
      if ¬ (S5.1 4805 < 0 ∨ 40 ≤ (S5.1 4805).toNatClampNeg) then
        g_let (sA S5 52 (upd (S5.2.2.1 52) (S5.1 4805).toNatClampNeg x2)) fun S8 =>
        g_let (sI S8 4805 ((S8.1 4805) + 1)) fun S10 =>
        g_let (sI S10 4804 (S10.1 4805)) fun S12 =>
        if ¬ (x1 < 0 ∨ 75 ≤ x1.toNatClampNeg) then
          g_let (sA S12 49 (upd (S12.2.2.1 49) x1.toNatClampNeg x2)) fun S15 =>
          some (x3, S15)
        else none
      else none
    else none
  else none
set_option maxHeartbeats 4000000 in
set_option maxRecDepth 100000 in
theorem t_X11_becomes_97 {g : z_G} {K : z_K} (n : Nat) {v : Int32} {S' : z_Stt} (cx : z_C g M_X11_becomes 0 K) (ce : z_E' g M_X11_becomes (z_P g (some (.int v)) S') K) (x1 : Int32) (x2 : Int32) (x3 : Int32) (S : z_Stt) (h : f_X11_becomes_97 n x1 x2 x3 S = some (v, S')) : z_At g M_X11_becomes K 97 [some (.ref (z_ad g 48)), some (.int x1), some (.int x2), some (.int x3), none] [] (hp g S) := by
  unfold f_X11_becomes_97 at h
  refine z_aload_n cx rfl rfl dX11_becomes_97 ?_
  refine q_getF (k := 48) (n := 50) (r := 2) cx z_cl11 (j := 1) (by decide) tb_142 rfl (by decide) rfl rfl rfl dX11_becomes_98 ?_
  refine z_aload_n cx rfl rfl dX11_becomes_101 ?_
  refine q_getI (k := 48) (n := 4805) cx z_cl11 (j := 5) (by decide) tb_294 rfl (by decide) rfl rfl rfl dX11_becomes_102 ?_
  refine z_iload_n cx rfl rfl dX11_becomes_105 ?_
  obtain ⟨c1, h⟩ := g_if h
  refine q_iast cx (by decide) rfl c1 dX11_becomes_106 ?_
  obtain ⟨S2, e3, h⟩ := g_let_ex h
  rw [← e3]
  refine z_aload_n cx rfl rfl dX11_becomes_107 ?_
  refine q_getF (k := 48) (n := 51) (r := 3) cx z_cl11 (j := 2) (by decide) tb_143 rfl (by decide) rfl rfl rfl dX11_becomes_108 ?_
  refine z_aload_n cx rfl rfl dX11_becomes_111 ?_
  refine q_getI (k := 48) (n := 4805) cx z_cl11 (j := 5) (by decide) tb_294 rfl (by decide) rfl rfl rfl dX11_becomes_112 ?_
  refine z_iload_n cx rfl rfl dX11_becomes_115 ?_
  obtain ⟨c4, h⟩ := g_if h
  refine q_iast cx (by decide) rfl c4 dX11_becomes_116 ?_
  obtain ⟨S5, e6, h⟩ := g_let_ex h
  rw [← e6]
  refine z_aload_n cx rfl rfl dX11_becomes_117 ?_
  refine q_getF (k := 48) (n := 52) (r := 4) cx z_cl11 (j := 3) (by decide) tb_144 rfl (by decide) rfl rfl rfl dX11_becomes_118 ?_
  refine z_aload_n cx rfl rfl dX11_becomes_121 ?_
  refine q_getI (k := 48) (n := 4805) cx z_cl11 (j := 5) (by decide) tb_294 rfl (by decide) rfl rfl rfl dX11_becomes_122 ?_
  refine z_iload_n cx rfl rfl dX11_becomes_125 ?_
  obtain ⟨c7, h⟩ := g_if h
  refine q_iast cx (by decide) rfl c7 dX11_becomes_126 ?_
  obtain ⟨S8, e9, h⟩ := g_let_ex h
  rw [← e9]
  refine z_aload_n cx rfl rfl dX11_becomes_127 ?_
  refine z_dup cx rfl dX11_becomes_128 ?_
  refine q_getI (k := 48) (n := 4805) cx z_cl11 (j := 5) (by decide) tb_294 rfl (by decide) rfl rfl rfl dX11_becomes_129 ?_
  refine z_iconst (v := 1) cx (by decide +kernel) dX11_becomes_132 ?_
  refine z_iadd cx dX11_becomes_133 ?_
  refine q_putI (k := 48) (n := 4805) cx z_cl11 (j := 5) (by decide) tb_294 rfl rfl rfl (by decide) rfl rfl rfl (by decide) (by decide) dX11_becomes_134 ?_
  obtain ⟨S10, e11, h⟩ := g_let_ex h
  rw [← e11]
  refine z_aload_n cx rfl rfl dX11_becomes_137 ?_
  refine z_aload_n cx rfl rfl dX11_becomes_138 ?_
  refine q_getI (k := 48) (n := 4805) cx z_cl11 (j := 5) (by decide) tb_294 rfl (by decide) rfl rfl rfl dX11_becomes_139 ?_
  refine q_putI (k := 48) (n := 4804) cx z_cl11 (j := 4) (by decide) tb_295 rfl rfl rfl (by decide) rfl rfl rfl (by decide) (by decide) dX11_becomes_142 ?_
  obtain ⟨S12, e13, h⟩ := g_let_ex h
  rw [← e13]
  refine z_aload_n cx rfl rfl dX11_becomes_145 ?_
  refine q_getF (k := 48) (n := 49) (r := 1) cx z_cl11 (j := 0) (by decide) tb_141 rfl (by decide) rfl rfl rfl dX11_becomes_146 ?_
  refine z_iload_n cx rfl rfl dX11_becomes_149 ?_
  refine z_iload_n cx rfl rfl dX11_becomes_150 ?_
  obtain ⟨c14, h⟩ := g_if h
  refine q_iast cx (by decide) rfl c14 dX11_becomes_151 ?_
  obtain ⟨S15, e16, h⟩ := g_let_ex h
  rw [← e16]
  refine z_iload_n cx rfl rfl dX11_becomes_152 ?_
  obtain ⟨rfl, rfl⟩ := g_some h
  exact z_ireturn cx ce rfl ⟨rfl, rfl⟩ dX11_becomes_153
def f_X11_becomes_26 (n : Nat) : Nat → Int32 → Int32 → Int32 → Int32 → z_Stt → Option (Int32 × z_Stt)
  | 0, _, _, _, _, _ => none
  | m + 1, x1, x2, x3, x4, S =>
    if 40 ≤ x4 then
      g_let (sI S 4805 ((S.1 4805) - 1)) fun S2 =>
      f_X11_becomes_97 n x1 x2 x3 S2
    else
      if ¬ (x4 < 0 ∨ 40 ≤ x4.toNatClampNeg) then
        if ¬ (x4 - 1 < 0 ∨ 40 ≤ (x4 - 1).toNatClampNeg) then
          g_let (sA S 50 (upd (S.2.2.1 50) (x4 - 1).toNatClampNeg (S.2.2.1 50 x4.toNatClampNeg))) fun S6 =>
          if ¬ (x4 < 0 ∨ 40 ≤ x4.toNatClampNeg) then
            if ¬ (x4 - 1 < 0 ∨ 40 ≤ (x4 - 1).toNatClampNeg) then
              g_let (sA S6 51 (upd (S6.2.2.1 51) (x4 - 1).toNatClampNeg (S6.2.2.1 51 x4.toNatClampNeg))) fun S10 =>
              if ¬ (x4 < 0 ∨ 40 ≤ x4.toNatClampNeg) then
                if ¬ (x4 - 1 < 0 ∨ 40 ≤ (x4 - 1).toNatClampNeg) then
                  g_let (sA S10 52 (upd (S10.2.2.1 52) (x4 - 1).toNatClampNeg (S10.2.2.1 52 x4.toNatClampNeg))) fun S14 =>
                  f_X11_becomes_26 n m x1 x2 x3 (x4 + 1) S14
                else none
              else none
            else none
          else none
        else none
      else none
set_option maxHeartbeats 4000000 in
set_option maxRecDepth 100000 in
theorem t_X11_becomes_26 {g : z_G} {K : z_K} (n : Nat) {v : Int32} {S' : z_Stt} (cx : z_C g M_X11_becomes 0 K) (ce : z_E' g M_X11_becomes (z_P g (some (.int v)) S') K) : ∀ (m : Nat) (x1 : Int32) (x2 : Int32) (x3 : Int32) (x4 : Int32) (S : z_Stt) (h : f_X11_becomes_26 n m x1 x2 x3 x4 S = some (v, S')), z_At g M_X11_becomes K 26 [some (.ref (z_ad g 48)), some (.int x1), some (.int x2), some (.int x3), some (.int x4)] [] (hp g S) := by
  intro m
  induction m with
  | zero => intro x1 x2 x3 x4 S h; simp [f_X11_becomes_26] at h
  | succ m ih =>
    intro x1 x2 x3 x4 S h
    rw [f_X11_becomes_26] at h
    refine z_iload cx rfl dX11_becomes_26 ?_
    refine z_bipush (v := 40) cx (by decide +kernel) dX11_becomes_28 ?_
    refine z_icmp_ge (tgt := 87) cx (by decide) dX11_becomes_30 (fun c1 => ?_) (fun c1 => ?_)
    · have h := g_t c1 h
      refine z_aload_n cx rfl rfl dX11_becomes_87 ?_
      refine z_dup cx rfl dX11_becomes_88 ?_
      refine q_getI (k := 48) (n := 4805) cx z_cl11 (j := 5) (by decide) tb_294 rfl (by decide) rfl rfl rfl dX11_becomes_89 ?_
      refine z_iconst (v := 1) cx (by decide +kernel) dX11_becomes_92 ?_
      refine z_isub cx dX11_becomes_93 ?_
      refine q_putI (k := 48) (n := 4805) cx z_cl11 (j := 5) (by decide) tb_294 rfl rfl rfl (by decide) rfl rfl rfl (by decide) (by decide) dX11_becomes_94 ?_
      obtain ⟨S2, e3, h⟩ := g_let_ex h
      rw [← e3]
      exact q_weak (z_wk_s (z_wk_s (z_wk_s (z_wk_s (z_wk_n (z_wk_0)))))) (t_X11_becomes_97 n cx ce x1 x2 x3 S2 h)
    · have h := g_f c1 h
      refine z_aload_n cx rfl rfl dX11_becomes_33 ?_
      refine q_getF (k := 48) (n := 50) (r := 2) cx z_cl11 (j := 1) (by decide) tb_142 rfl (by decide) rfl rfl rfl dX11_becomes_34 ?_
      refine z_iload cx rfl dX11_becomes_37 ?_
      refine z_iconst (v := 1) cx (by decide +kernel) dX11_becomes_39 ?_
      refine z_isub cx dX11_becomes_40 ?_
      refine z_aload_n cx rfl rfl dX11_becomes_41 ?_
      refine q_getF (k := 48) (n := 50) (r := 2) cx z_cl11 (j := 1) (by decide) tb_142 rfl (by decide) rfl rfl rfl dX11_becomes_42 ?_
      refine z_iload cx rfl dX11_becomes_45 ?_
      obtain ⟨c4, h⟩ := g_if h
      refine q_iald cx (by decide) rfl c4 dX11_becomes_47 ?_
      obtain ⟨c5, h⟩ := g_if h
      refine q_iast cx (by decide) rfl c5 dX11_becomes_48 ?_
      obtain ⟨S6, e7, h⟩ := g_let_ex h
      rw [← e7]
      refine z_aload_n cx rfl rfl dX11_becomes_49 ?_
      refine q_getF (k := 48) (n := 51) (r := 3) cx z_cl11 (j := 2) (by decide) tb_143 rfl (by decide) rfl rfl rfl dX11_becomes_50 ?_
      refine z_iload cx rfl dX11_becomes_53 ?_
      refine z_iconst (v := 1) cx (by decide +kernel) dX11_becomes_55 ?_
      refine z_isub cx dX11_becomes_56 ?_
      refine z_aload_n cx rfl rfl dX11_becomes_57 ?_
      refine q_getF (k := 48) (n := 51) (r := 3) cx z_cl11 (j := 2) (by decide) tb_143 rfl (by decide) rfl rfl rfl dX11_becomes_58 ?_
      refine z_iload cx rfl dX11_becomes_61 ?_
      obtain ⟨c8, h⟩ := g_if h
      refine q_iald cx (by decide) rfl c8 dX11_becomes_63 ?_
      obtain ⟨c9, h⟩ := g_if h
      refine q_iast cx (by decide) rfl c9 dX11_becomes_64 ?_
      obtain ⟨S10, e11, h⟩ := g_let_ex h
      rw [← e11]
      refine z_aload_n cx rfl rfl dX11_becomes_65 ?_
      refine q_getF (k := 48) (n := 52) (r := 4) cx z_cl11 (j := 3) (by decide) tb_144 rfl (by decide) rfl rfl rfl dX11_becomes_66 ?_
      refine z_iload cx rfl dX11_becomes_69 ?_
      refine z_iconst (v := 1) cx (by decide +kernel) dX11_becomes_71 ?_
      refine z_isub cx dX11_becomes_72 ?_
      refine z_aload_n cx rfl rfl dX11_becomes_73 ?_
      refine q_getF (k := 48) (n := 52) (r := 4) cx z_cl11 (j := 3) (by decide) tb_144 rfl (by decide) rfl rfl rfl dX11_becomes_74 ?_
      refine z_iload cx rfl dX11_becomes_77 ?_
      obtain ⟨c12, h⟩ := g_if h
      refine q_iald cx (by decide) rfl c12 dX11_becomes_79 ?_
      obtain ⟨c13, h⟩ := g_if h
      refine q_iast cx (by decide) rfl c13 dX11_becomes_80 ?_
      obtain ⟨S14, e15, h⟩ := g_let_ex h
      rw [← e15]
      refine z_iinc (c := 1) (L' := [some (.ref (z_ad g 48)), some (.int x1), some (.int x2), some (.int x3), some (.int (x4 + 1))]) cx rfl (by decide +kernel) (by decide) rfl dX11_becomes_81 ?_
      refine z_goto (tgt := 26) cx (by decide) dX11_becomes_84 ?_
      exact q_weak (z_wk_s (z_wk_s (z_wk_s (z_wk_s (z_wk_s (z_wk_0)))))) (ih x1 x2 x3 (x4 + 1) S14 h)
def f_X11_becomes (n : Nat) (a0 : Int32) (a1 : Int32) (S : z_Stt) : Option (Int32 × z_Stt) :=
  if ¬ (a0 < 0 ∨ 75 ≤ a0.toNatClampNeg) then
    if S.2.2.1 49 a0.toNatClampNeg = a1 then
      some (S.2.2.1 49 a0.toNatClampNeg, S)
    else
      if S.1 4805 = 40 then
        f_X11_becomes_26 n n a0 a1 (S.2.2.1 49 a0.toNatClampNeg) 1 S
      else
        f_X11_becomes_97 n a0 a1 (S.2.2.1 49 a0.toNatClampNeg) S
  else none
set_option maxHeartbeats 4000000 in
set_option maxRecDepth 100000 in
theorem t_X11_becomes {g : z_G} {K : z_K} (n : Nat) {v : Int32} {S' : z_Stt} (cx : z_C g M_X11_becomes 0 K) (ce : z_E' g M_X11_becomes (z_P g (some (.int v)) S') K) (a0 : Int32) (a1 : Int32) (S : z_Stt) (h : f_X11_becomes n a0 a1 S = some (v, S')) : z_At g M_X11_becomes K 0 [some (.ref (z_ad g 48)), some (.int a0), some (.int a1), none, none] [] (hp g S) := by
  unfold f_X11_becomes at h
  refine z_aload_n cx rfl rfl dX11_becomes_0 ?_
  refine q_getF (k := 48) (n := 49) (r := 1) cx z_cl11 (j := 0) (by decide) tb_141 rfl (by decide) rfl rfl rfl dX11_becomes_1 ?_
  refine z_iload_n cx rfl rfl dX11_becomes_4 ?_
  obtain ⟨c1, h⟩ := g_if h
  refine q_iald cx (by decide) rfl c1 dX11_becomes_5 ?_
  refine z_istore_n (L' := [some (.ref (z_ad g 48)), some (.int a0), some (.int a1), some (.int (S.2.2.1 49 a0.toNatClampNeg)), none]) cx rfl (by decide) rfl dX11_becomes_6 ?_
  refine z_iload_n cx rfl rfl dX11_becomes_7 ?_
  refine z_iload_n cx rfl rfl dX11_becomes_8 ?_
  refine z_icmp_ne (tgt := 14) cx (by decide) dX11_becomes_9 (fun c2 => ?_) (fun c2 => ?_)
  · have h := g_f c2 h
    refine z_aload_n cx rfl rfl dX11_becomes_14 ?_
    refine q_getI (k := 48) (n := 4805) cx z_cl11 (j := 5) (by decide) tb_294 rfl (by decide) rfl rfl rfl dX11_becomes_15 ?_
    refine z_bipush (v := 40) cx (by decide +kernel) dX11_becomes_18 ?_
    refine z_icmp_ne (tgt := 97) cx (by decide) dX11_becomes_20 (fun c3 => ?_) (fun c3 => ?_)
    · have h := g_f c3 h
      exact q_weak (z_wk_s (z_wk_s (z_wk_s (z_wk_s (z_wk_n (z_wk_0)))))) (t_X11_becomes_97 n cx ce a0 a1 (S.2.2.1 49 a0.toNatClampNeg) S h)
    · have h := g_t c3 h
      refine z_iconst (v := 1) cx (by decide +kernel) dX11_becomes_23 ?_
      refine z_istore (L' := [some (.ref (z_ad g 48)), some (.int a0), some (.int a1), some (.int (S.2.2.1 49 a0.toNatClampNeg)), some (.int 1)]) cx (by decide) rfl dX11_becomes_24 ?_
      exact q_weak (z_wk_s (z_wk_s (z_wk_s (z_wk_s (z_wk_s (z_wk_0)))))) (t_X11_becomes_26 n cx ce n a0 a1 (S.2.2.1 49 a0.toNatClampNeg) 1 S h)
  · have h := g_t c2 h
    refine z_iload_n cx rfl rfl dX11_becomes_12 ?_
    obtain ⟨rfl, rfl⟩ := g_some h
    exact z_ireturn cx ce rfl ⟨rfl, rfl⟩ dX11_becomes_13
theorem c_X11_becomes {g : z_G} {n : Nat} (a0 : Int32) (a1 : Int32) (S : z_Stt) {v : Int32} {S' : z_Stt} (h : f_X11_becomes n a0 a1 S = some (v, S')) : z_Ct g M_X11_becomes 0 [.ref (z_ad g 48), .int a0, .int a1] (hp g S) (z_P g (some (.int v)) S') :=
  z_Ct.of (by decide +kernel) rfl (Nat.le_of_ble_eq_true rfl) (fun K cx ce => q_weak (L' := [some (.ref (z_ad g 48)), some (.int a0), some (.int a1), none, none]) (z_wk_s (z_wk_s (z_wk_s (z_wk_e (z_wk_e (z_wk_0)))))) (t_X11_becomes n cx ce a0 a1 S h))
abbrev M_X11_undo : z_M := (RX11, yX11_undo, cX11_undo, 1, some .int)
theorem mo_X11_undo : z_mo M_X11_undo 0 := ⟨tb_1036, tb_5, rfl, ⟨by decide +kernel, by decide +kernel⟩, by decide +kernel, by decide⟩
theorem mv_X11_undo : z_mv M_X11_undo := ⟨tb_1034, tb_1035⟩
def f_X11_undo (S : z_Stt) : Option (Int32 × z_Stt) :=
  if S.1 4805 = 0 then
    some ((-5), S)
  else
    g_let (sI S 4805 ((S.1 4805) - 1)) fun S2 =>
    if ¬ (S2.1 4805 < 0 ∨ 40 ≤ (S2.1 4805).toNatClampNeg) then
      if ¬ (S2.1 4805 < 0 ∨ 40 ≤ (S2.1 4805).toNatClampNeg) then
        if ¬ (S2.2.2.1 50 (S2.1 4805).toNatClampNeg < 0 ∨ 75 ≤ (S2.2.2.1 50 (S2.1 4805).toNatClampNeg).toNatClampNeg) then
          g_let (sA S2 49 (upd (S2.2.2.1 49) (S2.2.2.1 50 (S2.1 4805).toNatClampNeg).toNatClampNeg (S2.2.2.1 51 (S2.1 4805).toNatClampNeg))) fun S7 =>
          some (S7.1 4805, S7)
        else none
      else none
    else none
set_option maxHeartbeats 4000000 in
set_option maxRecDepth 100000 in
theorem t_X11_undo {g : z_G} {K : z_K} {v : Int32} {S' : z_Stt} (cx : z_C g M_X11_undo 0 K) (ce : z_E' g M_X11_undo (z_P g (some (.int v)) S') K) (S : z_Stt) (h : f_X11_undo S = some (v, S')) : z_At g M_X11_undo K 0 [some (.ref (z_ad g 48))] [] (hp g S) := by
  unfold f_X11_undo at h
  refine z_aload_n cx rfl rfl dX11_undo_0 ?_
  refine q_getI (k := 48) (n := 4805) cx z_cl11 (j := 5) (by decide) tb_294 rfl (by decide) rfl rfl rfl dX11_undo_1 ?_
  refine z_if_ne (tgt := 10) cx (by decide) dX11_undo_4 (fun c1 => ?_) (fun c1 => ?_)
  · have h := g_f c1 h
    refine z_aload_n cx rfl rfl dX11_undo_10 ?_
    refine z_dup cx rfl dX11_undo_11 ?_
    refine q_getI (k := 48) (n := 4805) cx z_cl11 (j := 5) (by decide) tb_294 rfl (by decide) rfl rfl rfl dX11_undo_12 ?_
    refine z_iconst (v := 1) cx (by decide +kernel) dX11_undo_15 ?_
    refine z_isub cx dX11_undo_16 ?_
    refine q_putI (k := 48) (n := 4805) cx z_cl11 (j := 5) (by decide) tb_294 rfl rfl rfl (by decide) rfl rfl rfl (by decide) (by decide) dX11_undo_17 ?_
    obtain ⟨S2, e3, h⟩ := g_let_ex h
    rw [← e3]
    refine z_aload_n cx rfl rfl dX11_undo_20 ?_
    refine q_getF (k := 48) (n := 49) (r := 1) cx z_cl11 (j := 0) (by decide) tb_141 rfl (by decide) rfl rfl rfl dX11_undo_21 ?_
    refine z_aload_n cx rfl rfl dX11_undo_24 ?_
    refine q_getF (k := 48) (n := 50) (r := 2) cx z_cl11 (j := 1) (by decide) tb_142 rfl (by decide) rfl rfl rfl dX11_undo_25 ?_
    refine z_aload_n cx rfl rfl dX11_undo_28 ?_
    refine q_getI (k := 48) (n := 4805) cx z_cl11 (j := 5) (by decide) tb_294 rfl (by decide) rfl rfl rfl dX11_undo_29 ?_
    obtain ⟨c4, h⟩ := g_if h
    refine q_iald cx (by decide) rfl c4 dX11_undo_32 ?_
    refine z_aload_n cx rfl rfl dX11_undo_33 ?_
    refine q_getF (k := 48) (n := 51) (r := 3) cx z_cl11 (j := 2) (by decide) tb_143 rfl (by decide) rfl rfl rfl dX11_undo_34 ?_
    refine z_aload_n cx rfl rfl dX11_undo_37 ?_
    refine q_getI (k := 48) (n := 4805) cx z_cl11 (j := 5) (by decide) tb_294 rfl (by decide) rfl rfl rfl dX11_undo_38 ?_
    obtain ⟨c5, h⟩ := g_if h
    refine q_iald cx (by decide) rfl c5 dX11_undo_41 ?_
    obtain ⟨c6, h⟩ := g_if h
    refine q_iast cx (by decide) rfl c6 dX11_undo_42 ?_
    obtain ⟨S7, e8, h⟩ := g_let_ex h
    rw [← e8]
    refine z_aload_n cx rfl rfl dX11_undo_43 ?_
    refine q_getI (k := 48) (n := 4805) cx z_cl11 (j := 5) (by decide) tb_294 rfl (by decide) rfl rfl rfl dX11_undo_44 ?_
    obtain ⟨rfl, rfl⟩ := g_some h
    exact z_ireturn cx ce rfl ⟨rfl, rfl⟩ dX11_undo_47
  · have h := g_t c1 h
    refine z_bipush (v := (-5)) cx (by decide +kernel) dX11_undo_7 ?_
    obtain ⟨rfl, rfl⟩ := g_some h
    exact z_ireturn cx ce rfl ⟨rfl, rfl⟩ dX11_undo_9
theorem c_X11_undo {g : z_G} (S : z_Stt) {v : Int32} {S' : z_Stt} (h : f_X11_undo S = some (v, S')) : z_Ct g M_X11_undo 0 [.ref (z_ad g 48)] (hp g S) (z_P g (some (.int v)) S') :=
  z_Ct.of (by decide +kernel) rfl (Nat.le_of_ble_eq_true rfl) (fun K cx ce => q_weak (L' := [some (.ref (z_ad g 48))]) (z_wk_s (z_wk_0)) (t_X11_undo cx ce S h))
abbrev M_X11_redo : z_M := (RX11, yX11_redo, cX11_redo, 1, some .int)
theorem mo_X11_redo : z_mo M_X11_redo 0 := ⟨tb_1049, tb_5, rfl, ⟨by decide +kernel, by decide +kernel⟩, by decide +kernel, by decide⟩
theorem mv_X11_redo : z_mv M_X11_redo := ⟨tb_1047, tb_1048⟩
def f_X11_redo (S : z_Stt) : Option (Int32 × z_Stt) :=
  if S.1 4805 = S.1 4804 then
    some ((-5), S)
  else
    if ¬ (S.1 4805 < 0 ∨ 40 ≤ (S.1 4805).toNatClampNeg) then
      if ¬ (S.1 4805 < 0 ∨ 40 ≤ (S.1 4805).toNatClampNeg) then
        if ¬ (S.2.2.1 50 (S.1 4805).toNatClampNeg < 0 ∨ 75 ≤ (S.2.2.1 50 (S.1 4805).toNatClampNeg).toNatClampNeg) then
          g_let (sA S 49 (upd (S.2.2.1 49) (S.2.2.1 50 (S.1 4805).toNatClampNeg).toNatClampNeg (S.2.2.1 52 (S.1 4805).toNatClampNeg))) fun S5 =>
          g_let (sI S5 4805 ((S5.1 4805) + 1)) fun S7 =>
          some ((S7.1 4804) - (S7.1 4805), S7)
        else none
      else none
    else none
set_option maxHeartbeats 4000000 in
set_option maxRecDepth 100000 in
theorem t_X11_redo {g : z_G} {K : z_K} {v : Int32} {S' : z_Stt} (cx : z_C g M_X11_redo 0 K) (ce : z_E' g M_X11_redo (z_P g (some (.int v)) S') K) (S : z_Stt) (h : f_X11_redo S = some (v, S')) : z_At g M_X11_redo K 0 [some (.ref (z_ad g 48))] [] (hp g S) := by
  unfold f_X11_redo at h
  refine z_aload_n cx rfl rfl dX11_redo_0 ?_
  refine q_getI (k := 48) (n := 4805) cx z_cl11 (j := 5) (by decide) tb_294 rfl (by decide) rfl rfl rfl dX11_redo_1 ?_
  refine z_aload_n cx rfl rfl dX11_redo_4 ?_
  refine q_getI (k := 48) (n := 4804) cx z_cl11 (j := 4) (by decide) tb_295 rfl (by decide) rfl rfl rfl dX11_redo_5 ?_
  refine z_icmp_ne (tgt := 14) cx (by decide) dX11_redo_8 (fun c1 => ?_) (fun c1 => ?_)
  · have h := g_f c1 h
    refine z_aload_n cx rfl rfl dX11_redo_14 ?_
    refine q_getF (k := 48) (n := 49) (r := 1) cx z_cl11 (j := 0) (by decide) tb_141 rfl (by decide) rfl rfl rfl dX11_redo_15 ?_
    refine z_aload_n cx rfl rfl dX11_redo_18 ?_
    refine q_getF (k := 48) (n := 50) (r := 2) cx z_cl11 (j := 1) (by decide) tb_142 rfl (by decide) rfl rfl rfl dX11_redo_19 ?_
    refine z_aload_n cx rfl rfl dX11_redo_22 ?_
    refine q_getI (k := 48) (n := 4805) cx z_cl11 (j := 5) (by decide) tb_294 rfl (by decide) rfl rfl rfl dX11_redo_23 ?_
    obtain ⟨c2, h⟩ := g_if h
    refine q_iald cx (by decide) rfl c2 dX11_redo_26 ?_
    refine z_aload_n cx rfl rfl dX11_redo_27 ?_
    refine q_getF (k := 48) (n := 52) (r := 4) cx z_cl11 (j := 3) (by decide) tb_144 rfl (by decide) rfl rfl rfl dX11_redo_28 ?_
    refine z_aload_n cx rfl rfl dX11_redo_31 ?_
    refine q_getI (k := 48) (n := 4805) cx z_cl11 (j := 5) (by decide) tb_294 rfl (by decide) rfl rfl rfl dX11_redo_32 ?_
    obtain ⟨c3, h⟩ := g_if h
    refine q_iald cx (by decide) rfl c3 dX11_redo_35 ?_
    obtain ⟨c4, h⟩ := g_if h
    refine q_iast cx (by decide) rfl c4 dX11_redo_36 ?_
    obtain ⟨S5, e6, h⟩ := g_let_ex h
    rw [← e6]
    refine z_aload_n cx rfl rfl dX11_redo_37 ?_
    refine z_dup cx rfl dX11_redo_38 ?_
    refine q_getI (k := 48) (n := 4805) cx z_cl11 (j := 5) (by decide) tb_294 rfl (by decide) rfl rfl rfl dX11_redo_39 ?_
    refine z_iconst (v := 1) cx (by decide +kernel) dX11_redo_42 ?_
    refine z_iadd cx dX11_redo_43 ?_
    refine q_putI (k := 48) (n := 4805) cx z_cl11 (j := 5) (by decide) tb_294 rfl rfl rfl (by decide) rfl rfl rfl (by decide) (by decide) dX11_redo_44 ?_
    obtain ⟨S7, e8, h⟩ := g_let_ex h
    rw [← e8]
    refine z_aload_n cx rfl rfl dX11_redo_47 ?_
    refine q_getI (k := 48) (n := 4804) cx z_cl11 (j := 4) (by decide) tb_295 rfl (by decide) rfl rfl rfl dX11_redo_48 ?_
    refine z_aload_n cx rfl rfl dX11_redo_51 ?_
    refine q_getI (k := 48) (n := 4805) cx z_cl11 (j := 5) (by decide) tb_294 rfl (by decide) rfl rfl rfl dX11_redo_52 ?_
    refine z_isub cx dX11_redo_55 ?_
    obtain ⟨rfl, rfl⟩ := g_some h
    exact z_ireturn cx ce rfl ⟨rfl, rfl⟩ dX11_redo_56
  · have h := g_t c1 h
    refine z_bipush (v := (-5)) cx (by decide +kernel) dX11_redo_11 ?_
    obtain ⟨rfl, rfl⟩ := g_some h
    exact z_ireturn cx ce rfl ⟨rfl, rfl⟩ dX11_redo_13
theorem c_X11_redo {g : z_G} (S : z_Stt) {v : Int32} {S' : z_Stt} (h : f_X11_redo S = some (v, S')) : z_Ct g M_X11_redo 0 [.ref (z_ad g 48)] (hp g S) (z_P g (some (.int v)) S') :=
  z_Ct.of (by decide +kernel) rfl (Nat.le_of_ble_eq_true rfl) (fun K cx ce => q_weak (L' := [some (.ref (z_ad g 48))]) (z_wk_s (z_wk_0)) (t_X11_redo cx ce S h))
abbrev M_X11_isThing : z_M := (RX11, yX11_isThing, cX11_isThing, 3, some .boolean)
theorem mo_X11_isThing : z_mo M_X11_isThing 1 := ⟨tb_277, tb_5, rfl, ⟨by decide +kernel, by decide +kernel⟩, by decide +kernel, by decide⟩
theorem mv_X11_isThing : z_mv M_X11_isThing := ⟨tb_275, tb_276⟩
def f_X11_isThing (a0 : Int64) (S : z_Stt) : Option (Bool × z_Stt) :=
  g_bd (f_X11_within a0 0 (Int32.toInt64 ((S.1 4806) - 1)) S) fun v1 S2 =>
  some (v1, S2)
set_option maxHeartbeats 4000000 in
set_option maxRecDepth 100000 in
theorem t_X11_isThing {g : z_G} {K : z_K} {v : Bool} {S' : z_Stt} (cx : z_C g M_X11_isThing 1 K) (ce : z_E' g M_X11_isThing (z_P g (some (.int (bI v))) S') K) (a0 : Int64) (S : z_Stt) (h : f_X11_isThing a0 S = some (v, S')) : z_At g M_X11_isThing K 0 [some (.ref (z_ad g 48)), some (.long a0), none] [] (hp g S) := by
  unfold f_X11_isThing at h
  refine z_lload_n cx rfl rfl dX11_isThing_0 ?_
  refine z_lconst (v := 0) cx (by decide +kernel) dX11_isThing_1 ?_
  refine z_aload_n cx rfl rfl dX11_isThing_2 ?_
  refine q_getI (k := 48) (n := 4806) cx z_cl11 (j := 6) (by decide) tb_184 rfl (by decide) rfl rfl rfl dX11_isThing_3 ?_
  refine z_iconst (v := 1) cx (by decide +kernel) dX11_isThing_6 ?_
  refine z_isub cx dX11_isThing_7 ?_
  refine z_i2l cx dX11_isThing_8 ?_
  obtain ⟨v1, S2, e3, h⟩ := g_bd_ex h
  refine q_csi (As := [.long a0, .long 0, .long (Int32.toInt64 ((S.1 4806) - 1))]) cx mo_X11_within ms_X11_within tb_185 (by decide) rfl rfl (Nat.le_of_ble_eq_true rfl) dX11_isThing_9 (c_X11_within a0 0 (Int32.toInt64 ((S.1 4806) - 1)) _ e3) ?_
  obtain ⟨rfl, rfl⟩ := g_some h
  exact z_zreturn cx ce rfl (bI_nar _) ⟨rfl, rfl⟩ dX11_isThing_12
theorem c_X11_isThing {g : z_G} (a0 : Int64) (S : z_Stt) {v : Bool} {S' : z_Stt} (h : f_X11_isThing a0 S = some (v, S')) : z_Ct g M_X11_isThing 1 [.ref (z_ad g 48), .long a0] (hp g S) (z_P g (some (.int (bI v))) S') :=
  z_Ct.of (by decide +kernel) rfl (Nat.le_of_ble_eq_true rfl) (fun K cx ce => q_weak (L' := [some (.ref (z_ad g 48)), some (.long a0), none]) (z_wk_s (z_wk_s (z_wk_n (z_wk_0)))) (t_X11_isThing cx ce a0 S h))
abbrev M_X11_numberOf : z_M := (RX11, yX11_numberOf, cX11_numberOf, 3, some .int)
theorem mo_X11_numberOf : z_mo M_X11_numberOf 2 := ⟨tb_499, tb_5, rfl, ⟨by decide +kernel, by decide +kernel⟩, by decide +kernel, by decide⟩
theorem mv_X11_numberOf : z_mv M_X11_numberOf := ⟨tb_497, tb_498⟩
def f_X11_numberOf (a0 : Int32) (a1 : Int32) (S : z_Stt) : Option (Int32 × z_Stt) :=
  if ¬ ((6 * a1) + a0 < 0 ∨ 75 ≤ ((6 * a1) + a0).toNatClampNeg) then
    some (S.2.2.1 49 ((6 * a1) + a0).toNatClampNeg, S)
  else none
set_option maxHeartbeats 4000000 in
set_option maxRecDepth 100000 in
theorem t_X11_numberOf {g : z_G} {K : z_K} {v : Int32} {S' : z_Stt} (cx : z_C g M_X11_numberOf 0 K) (ce : z_E' g M_X11_numberOf (z_P g (some (.int v)) S') K) (a0 : Int32) (a1 : Int32) (S : z_Stt) (h : f_X11_numberOf a0 a1 S = some (v, S')) : z_At g M_X11_numberOf K 0 [some (.ref (z_ad g 48)), some (.int a0), some (.int a1)] [] (hp g S) := by
  unfold f_X11_numberOf at h
  refine z_aload_n cx rfl rfl dX11_numberOf_0 ?_
  refine q_getF (k := 48) (n := 49) (r := 1) cx z_cl11 (j := 0) (by decide) tb_141 rfl (by decide) rfl rfl rfl dX11_numberOf_1 ?_
  refine z_bipush (v := 6) cx (by decide +kernel) dX11_numberOf_4 ?_
  refine z_iload_n cx rfl rfl dX11_numberOf_6 ?_
  refine z_imul cx dX11_numberOf_7 ?_
  refine z_iload_n cx rfl rfl dX11_numberOf_8 ?_
  refine z_iadd cx dX11_numberOf_9 ?_
  obtain ⟨c1, h⟩ := g_if h
  refine q_iald cx (by decide) rfl c1 dX11_numberOf_10 ?_
  obtain ⟨rfl, rfl⟩ := g_some h
  exact z_ireturn cx ce rfl ⟨rfl, rfl⟩ dX11_numberOf_11
theorem c_X11_numberOf {g : z_G} (a0 : Int32) (a1 : Int32) (S : z_Stt) {v : Int32} {S' : z_Stt} (h : f_X11_numberOf a0 a1 S = some (v, S')) : z_Ct g M_X11_numberOf 0 [.ref (z_ad g 48), .int a0, .int a1] (hp g S) (z_P g (some (.int v)) S') :=
  z_Ct.of (by decide +kernel) rfl (Nat.le_of_ble_eq_true rfl) (fun K cx ce => q_weak (L' := [some (.ref (z_ad g 48)), some (.int a0), some (.int a1)]) (z_wk_s (z_wk_s (z_wk_s (z_wk_0)))) (t_X11_numberOf cx ce a0 a1 S h))
abbrev M_X11_adds : z_M := (RX11, yX11_adds, cX11_adds, 5, none)
theorem mo_X11_adds : z_mo M_X11_adds 4 := ⟨tb_191, tb_5, rfl, ⟨by decide +kernel, by decide +kernel⟩, by decide +kernel, by decide⟩
theorem mv_X11_adds : z_mv M_X11_adds := ⟨tb_189, tb_190⟩
def f_X11_adds (a0 : Int32) (a1 : Int32) (a2 : Int32) (a3 : Int32) (S : z_Stt) : Option (Unit × z_Stt) :=
  if ¬ (S.1 4806 < 0 ∨ 75 ≤ (S.1 4806).toNatClampNeg) then
    g_let (sA S 49 (upd (S.2.2.1 49) (S.1 4806).toNatClampNeg a0)) fun S2 =>
    if ¬ (6 + (S2.1 4806) < 0 ∨ 75 ≤ (6 + (S2.1 4806)).toNatClampNeg) then
      g_let (sA S2 49 (upd (S2.2.2.1 49) (6 + (S2.1 4806)).toNatClampNeg a1)) fun S5 =>
      if ¬ (12 + (S5.1 4806) < 0 ∨ 75 ≤ (12 + (S5.1 4806)).toNatClampNeg) then
        g_let (sA S5 49 (upd (S5.2.2.1 49) (12 + (S5.1 4806)).toNatClampNeg a2)) fun S8 =>
        if ¬ (18 + (S8.1 4806) < 0 ∨ 75 ≤ (18 + (S8.1 4806)).toNatClampNeg) then
          g_let (sA S8 49 (upd (S8.2.2.1 49) (18 + (S8.1 4806)).toNatClampNeg a3)) fun S11 =>
          if ¬ (24 + (S11.1 4806) < 0 ∨ 75 ≤ (24 + (S11.1 4806)).toNatClampNeg) then
            g_let (sA S11 49 (upd (S11.2.2.1 49) (24 + (S11.1 4806)).toNatClampNeg 0)) fun S14 =>
            if ¬ (30 + (S14.1 4806) < 0 ∨ 75 ≤ (30 + (S14.1 4806)).toNatClampNeg) then
              g_let (sA S14 49 (upd (S14.2.2.1 49) (30 + (S14.1 4806)).toNatClampNeg 0)) fun S17 =>
              if ¬ (S17.1 4806 < 0 ∨ 6 ≤ (S17.1 4806).toNatClampNeg) then
                g_let (sA S17 53 (upd (S17.2.2.1 53) (S17.1 4806).toNatClampNeg 0)) fun S20 =>
                if ¬ (S20.1 4806 < 0 ∨ 6 ≤ (S20.1 4806).toNatClampNeg) then
                  g_let (sA S20 54 (upd (S20.2.2.1 54) (S20.1 4806).toNatClampNeg 0)) fun S23 =>
                  g_let (sI S23 4806 ((S23.1 4806) + 1)) fun S25 =>
                  some ((), S25)
                else none
              else none
            else none
          else none
        else none
      else none
    else none
  else none
set_option maxHeartbeats 4000000 in
set_option maxRecDepth 100000 in
theorem t_X11_adds {g : z_G} {K : z_K} {v : Unit} {S' : z_Stt} (cx : z_C g M_X11_adds 0 K) (ce : z_E' g M_X11_adds (z_P g (none) S') K) (a0 : Int32) (a1 : Int32) (a2 : Int32) (a3 : Int32) (S : z_Stt) (h : f_X11_adds a0 a1 a2 a3 S = some (v, S')) : z_At g M_X11_adds K 0 [some (.ref (z_ad g 48)), some (.int a0), some (.int a1), some (.int a2), some (.int a3)] [] (hp g S) := by
  unfold f_X11_adds at h
  refine z_aload_n cx rfl rfl dX11_adds_0 ?_
  refine q_getF (k := 48) (n := 49) (r := 1) cx z_cl11 (j := 0) (by decide) tb_141 rfl (by decide) rfl rfl rfl dX11_adds_1 ?_
  refine z_aload_n cx rfl rfl dX11_adds_4 ?_
  refine q_getI (k := 48) (n := 4806) cx z_cl11 (j := 6) (by decide) tb_184 rfl (by decide) rfl rfl rfl dX11_adds_5 ?_
  refine z_iload_n cx rfl rfl dX11_adds_8 ?_
  obtain ⟨c1, h⟩ := g_if h
  refine q_iast cx (by decide) rfl c1 dX11_adds_9 ?_
  obtain ⟨S2, e3, h⟩ := g_let_ex h
  rw [← e3]
  refine z_aload_n cx rfl rfl dX11_adds_10 ?_
  refine q_getF (k := 48) (n := 49) (r := 1) cx z_cl11 (j := 0) (by decide) tb_141 rfl (by decide) rfl rfl rfl dX11_adds_11 ?_
  refine z_bipush (v := 6) cx (by decide +kernel) dX11_adds_14 ?_
  refine z_aload_n cx rfl rfl dX11_adds_16 ?_
  refine q_getI (k := 48) (n := 4806) cx z_cl11 (j := 6) (by decide) tb_184 rfl (by decide) rfl rfl rfl dX11_adds_17 ?_
  refine z_iadd cx dX11_adds_20 ?_
  refine z_iload_n cx rfl rfl dX11_adds_21 ?_
  obtain ⟨c4, h⟩ := g_if h
  refine q_iast cx (by decide) rfl c4 dX11_adds_22 ?_
  obtain ⟨S5, e6, h⟩ := g_let_ex h
  rw [← e6]
  refine z_aload_n cx rfl rfl dX11_adds_23 ?_
  refine q_getF (k := 48) (n := 49) (r := 1) cx z_cl11 (j := 0) (by decide) tb_141 rfl (by decide) rfl rfl rfl dX11_adds_24 ?_
  refine z_bipush (v := 12) cx (by decide +kernel) dX11_adds_27 ?_
  refine z_aload_n cx rfl rfl dX11_adds_29 ?_
  refine q_getI (k := 48) (n := 4806) cx z_cl11 (j := 6) (by decide) tb_184 rfl (by decide) rfl rfl rfl dX11_adds_30 ?_
  refine z_iadd cx dX11_adds_33 ?_
  refine z_iload_n cx rfl rfl dX11_adds_34 ?_
  obtain ⟨c7, h⟩ := g_if h
  refine q_iast cx (by decide) rfl c7 dX11_adds_35 ?_
  obtain ⟨S8, e9, h⟩ := g_let_ex h
  rw [← e9]
  refine z_aload_n cx rfl rfl dX11_adds_36 ?_
  refine q_getF (k := 48) (n := 49) (r := 1) cx z_cl11 (j := 0) (by decide) tb_141 rfl (by decide) rfl rfl rfl dX11_adds_37 ?_
  refine z_bipush (v := 18) cx (by decide +kernel) dX11_adds_40 ?_
  refine z_aload_n cx rfl rfl dX11_adds_42 ?_
  refine q_getI (k := 48) (n := 4806) cx z_cl11 (j := 6) (by decide) tb_184 rfl (by decide) rfl rfl rfl dX11_adds_43 ?_
  refine z_iadd cx dX11_adds_46 ?_
  refine z_iload cx rfl dX11_adds_47 ?_
  obtain ⟨c10, h⟩ := g_if h
  refine q_iast cx (by decide) rfl c10 dX11_adds_49 ?_
  obtain ⟨S11, e12, h⟩ := g_let_ex h
  rw [← e12]
  refine z_aload_n cx rfl rfl dX11_adds_50 ?_
  refine q_getF (k := 48) (n := 49) (r := 1) cx z_cl11 (j := 0) (by decide) tb_141 rfl (by decide) rfl rfl rfl dX11_adds_51 ?_
  refine z_bipush (v := 24) cx (by decide +kernel) dX11_adds_54 ?_
  refine z_aload_n cx rfl rfl dX11_adds_56 ?_
  refine q_getI (k := 48) (n := 4806) cx z_cl11 (j := 6) (by decide) tb_184 rfl (by decide) rfl rfl rfl dX11_adds_57 ?_
  refine z_iadd cx dX11_adds_60 ?_
  refine z_iconst (v := 0) cx (by decide +kernel) dX11_adds_61 ?_
  obtain ⟨c13, h⟩ := g_if h
  refine q_iast cx (by decide) rfl c13 dX11_adds_62 ?_
  obtain ⟨S14, e15, h⟩ := g_let_ex h
  rw [← e15]
  refine z_aload_n cx rfl rfl dX11_adds_63 ?_
  refine q_getF (k := 48) (n := 49) (r := 1) cx z_cl11 (j := 0) (by decide) tb_141 rfl (by decide) rfl rfl rfl dX11_adds_64 ?_
  refine z_bipush (v := 30) cx (by decide +kernel) dX11_adds_67 ?_
  refine z_aload_n cx rfl rfl dX11_adds_69 ?_
  refine q_getI (k := 48) (n := 4806) cx z_cl11 (j := 6) (by decide) tb_184 rfl (by decide) rfl rfl rfl dX11_adds_70 ?_
  refine z_iadd cx dX11_adds_73 ?_
  refine z_iconst (v := 0) cx (by decide +kernel) dX11_adds_74 ?_
  obtain ⟨c16, h⟩ := g_if h
  refine q_iast cx (by decide) rfl c16 dX11_adds_75 ?_
  obtain ⟨S17, e18, h⟩ := g_let_ex h
  rw [← e18]
  refine z_aload_n cx rfl rfl dX11_adds_76 ?_
  refine q_getF (k := 48) (n := 53) (r := 5) cx z_cl11 (j := 7) (by decide) tb_145 rfl (by decide) rfl rfl rfl dX11_adds_77 ?_
  refine z_aload_n cx rfl rfl dX11_adds_80 ?_
  refine q_getI (k := 48) (n := 4806) cx z_cl11 (j := 6) (by decide) tb_184 rfl (by decide) rfl rfl rfl dX11_adds_81 ?_
  refine z_iconst (v := 0) cx (by decide +kernel) dX11_adds_84 ?_
  obtain ⟨c19, h⟩ := g_if h
  refine q_iast cx (by decide) rfl c19 dX11_adds_85 ?_
  obtain ⟨S20, e21, h⟩ := g_let_ex h
  rw [← e21]
  refine z_aload_n cx rfl rfl dX11_adds_86 ?_
  refine q_getF (k := 48) (n := 54) (r := 6) cx z_cl11 (j := 8) (by decide) tb_147 rfl (by decide) rfl rfl rfl dX11_adds_87 ?_
  refine z_aload_n cx rfl rfl dX11_adds_90 ?_
  refine q_getI (k := 48) (n := 4806) cx z_cl11 (j := 6) (by decide) tb_184 rfl (by decide) rfl rfl rfl dX11_adds_91 ?_
  refine z_iconst (v := 0) cx (by decide +kernel) dX11_adds_94 ?_
  obtain ⟨c22, h⟩ := g_if h
  refine q_zast cx (by decide) rfl c22 (by decide +kernel) dX11_adds_95 ?_
  obtain ⟨S23, e24, h⟩ := g_let_ex h
  rw [← e24]
  refine z_aload_n cx rfl rfl dX11_adds_96 ?_
  refine z_dup cx rfl dX11_adds_97 ?_
  refine q_getI (k := 48) (n := 4806) cx z_cl11 (j := 6) (by decide) tb_184 rfl (by decide) rfl rfl rfl dX11_adds_98 ?_
  refine z_iconst (v := 1) cx (by decide +kernel) dX11_adds_101 ?_
  refine z_iadd cx dX11_adds_102 ?_
  refine q_putI (k := 48) (n := 4806) cx z_cl11 (j := 6) (by decide) tb_184 rfl rfl rfl (by decide) rfl rfl rfl (by decide) (by decide) dX11_adds_103 ?_
  obtain ⟨S25, e26, h⟩ := g_let_ex h
  rw [← e26]
  obtain ⟨rfl, rfl⟩ := g_some h
  exact z_return cx ce rfl ⟨rfl, rfl⟩ dX11_adds_106
theorem c_X11_adds {g : z_G} (a0 : Int32) (a1 : Int32) (a2 : Int32) (a3 : Int32) (S : z_Stt) {v : Unit} {S' : z_Stt} (h : f_X11_adds a0 a1 a2 a3 S = some (v, S')) : z_Ct g M_X11_adds 0 [.ref (z_ad g 48), .int a0, .int a1, .int a2, .int a3] (hp g S) (z_P g (none) S') :=
  z_Ct.of (by decide +kernel) rfl (Nat.le_of_ble_eq_true rfl) (fun K cx ce => q_weak (L' := [some (.ref (z_ad g 48)), some (.int a0), some (.int a1), some (.int a2), some (.int a3)]) (z_wk_s (z_wk_s (z_wk_s (z_wk_s (z_wk_s (z_wk_0)))))) (t_X11_adds cx ce a0 a1 a2 a3 S h))
abbrev M_X11_thing : z_M := (RX11, yX11_thing, cX11_thing, 3, some .int)
theorem mo_X11_thing : z_mo M_X11_thing 2 := ⟨tb_181, tb_5, rfl, ⟨by decide +kernel, by decide +kernel⟩, by decide +kernel, by decide⟩
theorem mv_X11_thing : z_mv M_X11_thing := ⟨tb_179, tb_180⟩
def f_X11_thing (a0 : Int32) (a1 : Int32) (S : z_Stt) : Option (Int32 × z_Stt) :=
  g_bd (f_X11_within (Int32.toInt64 a0) 0 144 S) fun v1 S2 =>
  if v1 = true then
    g_bd (f_X11_within (Int32.toInt64 a1) 0 999 S2) fun v5 S6 =>
    if v5 = true then
      if S6.1 4806 = 6 then
        some ((-3), S6)
      else
        g_bd (f_X11_adds a0 10 3 a1 S6) fun v10 S11 =>
        some ((S11.1 4806) - 1, S11)
    else
      some ((-1), S6)
  else
    some ((-1), S2)
set_option maxHeartbeats 4000000 in
set_option maxRecDepth 100000 in
theorem t_X11_thing {g : z_G} {K : z_K} {v : Int32} {S' : z_Stt} (cx : z_C g M_X11_thing 1 K) (ce : z_E' g M_X11_thing (z_P g (some (.int v)) S') K) (a0 : Int32) (a1 : Int32) (S : z_Stt) (h : f_X11_thing a0 a1 S = some (v, S')) : z_At g M_X11_thing K 0 [some (.ref (z_ad g 48)), some (.int a0), some (.int a1)] [] (hp g S) := by
  unfold f_X11_thing at h
  refine z_iload_n cx rfl rfl dX11_thing_0 ?_
  refine z_i2l cx dX11_thing_1 ?_
  refine z_lconst (v := 0) cx (by decide +kernel) dX11_thing_2 ?_
  refine z_ldc2 cx tb_182 dX11_thing_3 ?_
  obtain ⟨v1, S2, e3, h⟩ := g_bd_ex h
  refine q_csi (As := [.long (Int32.toInt64 a0), .long 0, .long 144]) cx mo_X11_within ms_X11_within tb_185 (by decide) rfl rfl (Nat.le_of_ble_eq_true rfl) dX11_thing_6 (c_X11_within (Int32.toInt64 a0) 0 144 _ e3) ?_
  refine q_ifb_eq (tgt := 24) cx (by decide) dX11_thing_9 (fun c4 => ?_) (fun c4 => ?_)
  · have h := g_f (Bool.eq_false_iff.mp c4) h
    refine z_iconst (v := (-1)) cx (by decide +kernel) dX11_thing_24 ?_
    obtain ⟨rfl, rfl⟩ := g_some h
    exact z_ireturn cx ce rfl ⟨rfl, rfl⟩ dX11_thing_25
  · have h := g_t c4 h
    refine z_iload_n cx rfl rfl dX11_thing_12 ?_
    refine z_i2l cx dX11_thing_13 ?_
    refine z_lconst (v := 0) cx (by decide +kernel) dX11_thing_14 ?_
    refine z_ldc2 cx tb_183 dX11_thing_15 ?_
    obtain ⟨v5, S6, e7, h⟩ := g_bd_ex h
    refine q_csi (As := [.long (Int32.toInt64 a1), .long 0, .long 999]) cx mo_X11_within ms_X11_within tb_185 (by decide) rfl rfl (Nat.le_of_ble_eq_true rfl) dX11_thing_18 (c_X11_within (Int32.toInt64 a1) 0 999 _ e7) ?_
    refine q_ifb_ne (tgt := 26) cx (by decide) dX11_thing_21 (fun c8 => ?_) (fun c8 => ?_)
    · have h := g_t c8 h
      refine z_aload_n cx rfl rfl dX11_thing_26 ?_
      refine q_getI (k := 48) (n := 4806) cx z_cl11 (j := 6) (by decide) tb_184 rfl (by decide) rfl rfl rfl dX11_thing_27 ?_
      refine z_bipush (v := 6) cx (by decide +kernel) dX11_thing_30 ?_
      refine z_icmp_ne (tgt := 38) cx (by decide) dX11_thing_32 (fun c9 => ?_) (fun c9 => ?_)
      · have h := g_f c9 h
        refine z_aload_n cx rfl rfl dX11_thing_38 ?_
        refine z_iload_n cx rfl rfl dX11_thing_39 ?_
        refine z_bipush (v := 10) cx (by decide +kernel) dX11_thing_40 ?_
        refine z_iconst (v := 3) cx (by decide +kernel) dX11_thing_42 ?_
        refine z_iload_n cx rfl rfl dX11_thing_43 ?_
        obtain ⟨v10, S11, e12, h⟩ := g_bd_ex h
        refine q_cvv (As := [.int a0, .int 10, .int 3, .int a1]) cx mo_X11_adds mv_X11_adds z_cl11 rfl tb_188 (by decide) rfl (by decide) rfl rfl (Nat.le_of_ble_eq_true rfl) dX11_thing_44 (c_X11_adds a0 10 3 a1 _ e12) ?_
        refine z_aload_n cx rfl rfl dX11_thing_47 ?_
        refine q_getI (k := 48) (n := 4806) cx z_cl11 (j := 6) (by decide) tb_184 rfl (by decide) rfl rfl rfl dX11_thing_48 ?_
        refine z_iconst (v := 1) cx (by decide +kernel) dX11_thing_51 ?_
        refine z_isub cx dX11_thing_52 ?_
        obtain ⟨rfl, rfl⟩ := g_some h
        exact z_ireturn cx ce rfl ⟨rfl, rfl⟩ dX11_thing_53
      · have h := g_t c9 h
        refine z_bipush (v := (-3)) cx (by decide +kernel) dX11_thing_35 ?_
        obtain ⟨rfl, rfl⟩ := g_some h
        exact z_ireturn cx ce rfl ⟨rfl, rfl⟩ dX11_thing_37
    · have h := g_f (Bool.eq_false_iff.mp c8) h
      refine z_iconst (v := (-1)) cx (by decide +kernel) dX11_thing_24 ?_
      obtain ⟨rfl, rfl⟩ := g_some h
      exact z_ireturn cx ce rfl ⟨rfl, rfl⟩ dX11_thing_25
theorem c_X11_thing {g : z_G} (a0 : Int32) (a1 : Int32) (S : z_Stt) {v : Int32} {S' : z_Stt} (h : f_X11_thing a0 a1 S = some (v, S')) : z_Ct g M_X11_thing 1 [.ref (z_ad g 48), .int a0, .int a1] (hp g S) (z_P g (some (.int v)) S') :=
  z_Ct.of (by decide +kernel) rfl (Nat.le_of_ble_eq_true rfl) (fun K cx ce => q_weak (L' := [some (.ref (z_ad g 48)), some (.int a0), some (.int a1)]) (z_wk_s (z_wk_s (z_wk_s (z_wk_0)))) (t_X11_thing cx ce a0 a1 S h))
abbrev M_X11_isShelf : z_M := (RX11, yX11_isShelf, cX11_isShelf, 1, some .boolean)
theorem mo_X11_isShelf : z_mo M_X11_isShelf 1 := ⟨tb_224, tb_5, rfl, ⟨by decide +kernel, by decide +kernel⟩, by decide +kernel, by decide⟩
theorem ms_X11_isShelf : z_ms M_X11_isShelf := tb_223
def f_X11_isShelf (a0 : Int32) (S : z_Stt) : Option (Bool × z_Stt) :=
  g_bd (f_X11_within (Int32.toInt64 a0) 0 5 S) fun v1 S2 =>
  some (v1, S2)
set_option maxHeartbeats 4000000 in
set_option maxRecDepth 100000 in
theorem t_X11_isShelf {g : z_G} {K : z_K} {v : Bool} {S' : z_Stt} (cx : z_C g M_X11_isShelf 1 K) (ce : z_E' g M_X11_isShelf (z_P g (some (.int (bI v))) S') K) (a0 : Int32) (S : z_Stt) (h : f_X11_isShelf a0 S = some (v, S')) : z_At g M_X11_isShelf K 0 [some (.int a0)] [] (hp g S) := by
  unfold f_X11_isShelf at h
  refine z_iload_n cx rfl rfl dX11_isShelf_0 ?_
  refine z_i2l cx dX11_isShelf_1 ?_
  refine z_lconst (v := 0) cx (by decide +kernel) dX11_isShelf_2 ?_
  refine z_ldc2 cx tb_225 dX11_isShelf_3 ?_
  obtain ⟨v1, S2, e3, h⟩ := g_bd_ex h
  refine q_csi (As := [.long (Int32.toInt64 a0), .long 0, .long 5]) cx mo_X11_within ms_X11_within tb_185 (by decide) rfl rfl (Nat.le_of_ble_eq_true rfl) dX11_isShelf_6 (c_X11_within (Int32.toInt64 a0) 0 5 _ e3) ?_
  obtain ⟨rfl, rfl⟩ := g_some h
  exact z_zreturn cx ce rfl (bI_nar _) ⟨rfl, rfl⟩ dX11_isShelf_9
theorem c_X11_isShelf {g : z_G} (a0 : Int32) (S : z_Stt) {v : Bool} {S' : z_Stt} (h : f_X11_isShelf a0 S = some (v, S')) : z_Ct g M_X11_isShelf 1 [.int a0] (hp g S) (z_P g (some (.int (bI v))) S') :=
  z_Ct.of (by decide +kernel) rfl (Nat.le_of_ble_eq_true rfl) (fun K cx ce => q_weak (L' := [some (.int a0)]) (z_wk_s (z_wk_0)) (t_X11_isShelf cx ce a0 S h))
abbrev M_X11_things : z_M := (RX11, yX11_things, cX11_things, 7, some .int)
theorem mo_X11_things : z_mo M_X11_things 3 := ⟨tb_218, tb_5, rfl, ⟨by decide +kernel, by decide +kernel⟩, by decide +kernel, by decide⟩
theorem mv_X11_things : z_mv M_X11_things := ⟨tb_216, tb_217⟩
def f_X11_things_235 (n : Nat) (k69 : Int32 → Int32 → Int32 → Int32 → Int32 → z_Stt → Option (Int32 × z_Stt)) (x1 : Int32) (x2 : Int32) (x3 : Int32) (x4 : Int32) (x5 : Int32) (S : z_Stt) : Option (Int32 × z_Stt) :=
  k69 x1 x2 x3 x4 x5 S
set_option maxHeartbeats 4000000 in
set_option maxRecDepth 100000 in
theorem t_X11_things_235 {g : z_G} {K : z_K} (n : Nat) {v : Int32} {S' : z_Stt} (cx : z_C g M_X11_things 2 K) (ce : z_E' g M_X11_things (z_P g (some (.int v)) S') K) (k69 : Int32 → Int32 → Int32 → Int32 → Int32 → z_Stt → Option (Int32 × z_Stt)) (hk69 : ∀ (x1 : Int32) (x2 : Int32) (x3 : Int32) (x4 : Int32) (x5 : Int32) (S : z_Stt), k69 x1 x2 x3 x4 x5 S = some (v, S') → z_At g M_X11_things K 69 [some (.ref (z_ad g 48)), some (.int x1), some (.int x2), some (.int x3), some (.int x4), some (.int x5), none] [] (hp g S)) (x1 : Int32) (x2 : Int32) (x3 : Int32) (x4 : Int32) (x5 : Int32) (S : z_Stt) (h : f_X11_things_235 n k69 x1 x2 x3 x4 x5 S = some (v, S')) : z_At g M_X11_things K 235 [some (.ref (z_ad g 48)), some (.int x1), some (.int x2), some (.int x3), some (.int x4), some (.int x5), none] [] (hp g S) := by
  unfold f_X11_things_235 at h
  refine z_goto (tgt := 69) cx (by decide) dX11_things_235 ?_
  exact q_weak (z_wk_s (z_wk_s (z_wk_s (z_wk_s (z_wk_s (z_wk_s (z_wk_n (z_wk_0)))))))) (hk69 x1 x2 x3 x4 x5 S h)
def f_X11_things_191 (n : Nat) (k69 : Int32 → Int32 → Int32 → Int32 → Int32 → z_Stt → Option (Int32 × z_Stt)) (x1 : Int32) (x2 : Int32) (x3 : Int32) (x4 : Int32) (x6 : Int32) (y0 : Int32) (S : z_Stt) : Option (Int32 × z_Stt) :=
  if y0 = 0 then
    f_X11_things_235 n k69 x1 x2 x3 x4 y0 S
  else
    if ¬ (x6 < 0 ∨ 360 ≤ x6.toNatClampNeg) then
      if ¬ (x6 + 1 < 0 ∨ 360 ≤ (x6 + 1).toNatClampNeg) then
        if ¬ (x6 + 2 < 0 ∨ 360 ≤ (x6 + 2).toNatClampNeg) then
          g_bd (f_X11_adds (Int64.toInt32 (S.2.2.2.1 68 x6.toNatClampNeg)) (Int64.toInt32 (S.2.2.2.1 68 (x6 + 1).toNatClampNeg)) (Int64.toInt32 (S.2.2.2.1 68 (x6 + 2).toNatClampNeg)) 100 S) fun v5 S6 =>
          f_X11_things_235 n k69 x1 x2 x3 (x4 + 1) y0 S6
        else none
      else none
    else none
set_option maxHeartbeats 4000000 in
set_option maxRecDepth 100000 in
theorem t_X11_things_191 {g : z_G} {K : z_K} (n : Nat) {v : Int32} {S' : z_Stt} (cx : z_C g M_X11_things 2 K) (ce : z_E' g M_X11_things (z_P g (some (.int v)) S') K) (k69 : Int32 → Int32 → Int32 → Int32 → Int32 → z_Stt → Option (Int32 × z_Stt)) (hk69 : ∀ (x1 : Int32) (x2 : Int32) (x3 : Int32) (x4 : Int32) (x5 : Int32) (S : z_Stt), k69 x1 x2 x3 x4 x5 S = some (v, S') → z_At g M_X11_things K 69 [some (.ref (z_ad g 48)), some (.int x1), some (.int x2), some (.int x3), some (.int x4), some (.int x5), none] [] (hp g S)) (x1 : Int32) (x2 : Int32) (x3 : Int32) (x4 : Int32) (x6 : Int32) (y0 : Int32) (S : z_Stt) (h : f_X11_things_191 n k69 x1 x2 x3 x4 x6 y0 S = some (v, S')) : z_At g M_X11_things K 191 [some (.ref (z_ad g 48)), some (.int x1), some (.int x2), some (.int x3), some (.int x4), none, some (.int x6)] [.int y0] (hp g S) := by
  unfold f_X11_things_191 at h
  refine z_istore (L' := [some (.ref (z_ad g 48)), some (.int x1), some (.int x2), some (.int x3), some (.int x4), some (.int y0), some (.int x6)]) cx (by decide) rfl dX11_things_191 ?_
  refine z_iload cx rfl dX11_things_193 ?_
  refine z_if_eq (tgt := 235) cx (by decide) dX11_things_195 (fun c1 => ?_) (fun c1 => ?_)
  · have h := g_t c1 h
    exact q_weak (z_wk_s (z_wk_s (z_wk_s (z_wk_s (z_wk_s (z_wk_s (z_wk_n (z_wk_0)))))))) (t_X11_things_235 n cx ce k69 hk69 x1 x2 x3 x4 y0 S h)
  · have h := g_f c1 h
    refine z_aload_n cx rfl rfl dX11_things_198 ?_
    refine z_aload_n cx rfl rfl dX11_things_199 ?_
    refine q_getF (k := 48) (n := 68) (r := 20) cx z_cl11 (j := 44) (by decide) tb_161 rfl (by decide) rfl rfl rfl dX11_things_200 ?_
    refine z_iload cx rfl dX11_things_203 ?_
    obtain ⟨c2, h⟩ := g_if h
    refine q_lald cx (by decide) rfl c2 dX11_things_205 ?_
    refine z_l2i cx dX11_things_206 ?_
    refine z_aload_n cx rfl rfl dX11_things_207 ?_
    refine q_getF (k := 48) (n := 68) (r := 20) cx z_cl11 (j := 44) (by decide) tb_161 rfl (by decide) rfl rfl rfl dX11_things_208 ?_
    refine z_iload cx rfl dX11_things_211 ?_
    refine z_iconst (v := 1) cx (by decide +kernel) dX11_things_213 ?_
    refine z_iadd cx dX11_things_214 ?_
    obtain ⟨c3, h⟩ := g_if h
    refine q_lald cx (by decide) rfl c3 dX11_things_215 ?_
    refine z_l2i cx dX11_things_216 ?_
    refine z_aload_n cx rfl rfl dX11_things_217 ?_
    refine q_getF (k := 48) (n := 68) (r := 20) cx z_cl11 (j := 44) (by decide) tb_161 rfl (by decide) rfl rfl rfl dX11_things_218 ?_
    refine z_iload cx rfl dX11_things_221 ?_
    refine z_iconst (v := 2) cx (by decide +kernel) dX11_things_223 ?_
    refine z_iadd cx dX11_things_224 ?_
    obtain ⟨c4, h⟩ := g_if h
    refine q_lald cx (by decide) rfl c4 dX11_things_225 ?_
    refine z_l2i cx dX11_things_226 ?_
    refine z_bipush (v := 100) cx (by decide +kernel) dX11_things_227 ?_
    obtain ⟨v5, S6, e7, h⟩ := g_bd_ex h
    refine q_cvv (As := [.int (Int64.toInt32 (S.2.2.2.1 68 x6.toNatClampNeg)), .int (Int64.toInt32 (S.2.2.2.1 68 (x6 + 1).toNatClampNeg)), .int (Int64.toInt32 (S.2.2.2.1 68 (x6 + 2).toNatClampNeg)), .int 100]) cx mo_X11_adds mv_X11_adds z_cl11 rfl tb_188 (by decide) rfl (by decide) rfl rfl (Nat.le_of_ble_eq_true rfl) dX11_things_229 (c_X11_adds (Int64.toInt32 (S.2.2.2.1 68 x6.toNatClampNeg)) (Int64.toInt32 (S.2.2.2.1 68 (x6 + 1).toNatClampNeg)) (Int64.toInt32 (S.2.2.2.1 68 (x6 + 2).toNatClampNeg)) 100 _ e7) ?_
    refine z_iinc (c := 1) (L' := [some (.ref (z_ad g 48)), some (.int x1), some (.int x2), some (.int x3), some (.int (x4 + 1)), some (.int y0), some (.int x6)]) cx rfl (by decide +kernel) (by decide) rfl dX11_things_232 ?_
    exact q_weak (z_wk_s (z_wk_s (z_wk_s (z_wk_s (z_wk_s (z_wk_s (z_wk_n (z_wk_0)))))))) (t_X11_things_235 n cx ce k69 hk69 x1 x2 x3 (x4 + 1) y0 S6 h)
def f_X11_things_190 (n : Nat) (k69 : Int32 → Int32 → Int32 → Int32 → Int32 → z_Stt → Option (Int32 × z_Stt)) (x1 : Int32) (x2 : Int32) (x3 : Int32) (x4 : Int32) (x6 : Int32) (S : z_Stt) : Option (Int32 × z_Stt) :=
  f_X11_things_191 n k69 x1 x2 x3 x4 x6 0 S
set_option maxHeartbeats 4000000 in
set_option maxRecDepth 100000 in
theorem t_X11_things_190 {g : z_G} {K : z_K} (n : Nat) {v : Int32} {S' : z_Stt} (cx : z_C g M_X11_things 2 K) (ce : z_E' g M_X11_things (z_P g (some (.int v)) S') K) (k69 : Int32 → Int32 → Int32 → Int32 → Int32 → z_Stt → Option (Int32 × z_Stt)) (hk69 : ∀ (x1 : Int32) (x2 : Int32) (x3 : Int32) (x4 : Int32) (x5 : Int32) (S : z_Stt), k69 x1 x2 x3 x4 x5 S = some (v, S') → z_At g M_X11_things K 69 [some (.ref (z_ad g 48)), some (.int x1), some (.int x2), some (.int x3), some (.int x4), some (.int x5), none] [] (hp g S)) (x1 : Int32) (x2 : Int32) (x3 : Int32) (x4 : Int32) (x6 : Int32) (S : z_Stt) (h : f_X11_things_190 n k69 x1 x2 x3 x4 x6 S = some (v, S')) : z_At g M_X11_things K 190 [some (.ref (z_ad g 48)), some (.int x1), some (.int x2), some (.int x3), some (.int x4), none, some (.int x6)] [] (hp g S) := by
  unfold f_X11_things_190 at h
  refine z_iconst (v := 0) cx (by decide +kernel) dX11_things_190 ?_
  exact q_weak (z_wk_s (z_wk_s (z_wk_s (z_wk_s (z_wk_s (z_wk_n (z_wk_s (z_wk_0)))))))) (t_X11_things_191 n cx ce k69 hk69 x1 x2 x3 x4 x6 0 S h)
def f_X11_things_111 (n : Nat) (k69 : Int32 → Int32 → Int32 → Int32 → Int32 → z_Stt → Option (Int32 × z_Stt)) (x1 : Int32) (x2 : Int32) (x3 : Int32) (x4 : Int32) (y0 : Int32) (S : z_Stt) : Option (Int32 × z_Stt) :=
  if y0 = 0 then
    f_X11_things_190 n k69 x1 x2 x3 x4 (((60 * x1) + x2) + (3 * x4)) S
  else
    if ¬ (((60 * x1) + x2) + (3 * x4) < 0 ∨ 360 ≤ (((60 * x1) + x2) + (3 * x4)).toNatClampNeg) then
      g_bd (f_X11_within (S.2.2.2.1 68 (((60 * x1) + x2) + (3 * x4)).toNatClampNeg) 0 127 S) fun v3 S4 =>
      if v3 = true then
        if ¬ ((((60 * x1) + x2) + (3 * x4)) + 1 < 0 ∨ 360 ≤ ((((60 * x1) + x2) + (3 * x4)) + 1).toNatClampNeg) then
          g_bd (f_X11_within (S4.2.2.2.1 68 ((((60 * x1) + x2) + (3 * x4)) + 1).toNatClampNeg) 0 12 S4) fun v8 S9 =>
          if v8 = true then
            if ¬ ((((60 * x1) + x2) + (3 * x4)) + 2 < 0 ∨ 360 ≤ ((((60 * x1) + x2) + (3 * x4)) + 2).toNatClampNeg) then
              g_bd (f_X11_within (S9.2.2.2.1 68 ((((60 * x1) + x2) + (3 * x4)) + 2).toNatClampNeg) 0 12 S9) fun v13 S14 =>
              if v13 = true then
                f_X11_things_191 n k69 x1 x2 x3 x4 (((60 * x1) + x2) + (3 * x4)) 1 S14
              else
                f_X11_things_190 n k69 x1 x2 x3 x4 (((60 * x1) + x2) + (3 * x4)) S14
            else none
          else
            f_X11_things_190 n k69 x1 x2 x3 x4 (((60 * x1) + x2) + (3 * x4)) S9
        else none
      else
        f_X11_things_190 n k69 x1 x2 x3 x4 (((60 * x1) + x2) + (3 * x4)) S4
    else none
set_option maxHeartbeats 4000000 in
set_option maxRecDepth 100000 in
theorem t_X11_things_111 {g : z_G} {K : z_K} (n : Nat) {v : Int32} {S' : z_Stt} (cx : z_C g M_X11_things 2 K) (ce : z_E' g M_X11_things (z_P g (some (.int v)) S') K) (k69 : Int32 → Int32 → Int32 → Int32 → Int32 → z_Stt → Option (Int32 × z_Stt)) (hk69 : ∀ (x1 : Int32) (x2 : Int32) (x3 : Int32) (x4 : Int32) (x5 : Int32) (S : z_Stt), k69 x1 x2 x3 x4 x5 S = some (v, S') → z_At g M_X11_things K 69 [some (.ref (z_ad g 48)), some (.int x1), some (.int x2), some (.int x3), some (.int x4), some (.int x5), none] [] (hp g S)) (x1 : Int32) (x2 : Int32) (x3 : Int32) (x4 : Int32) (y0 : Int32) (S : z_Stt) (h : f_X11_things_111 n k69 x1 x2 x3 x4 y0 S = some (v, S')) : z_At g M_X11_things K 111 [some (.ref (z_ad g 48)), some (.int x1), some (.int x2), some (.int x3), some (.int x4), none, none] [.int y0] (hp g S) := by
  unfold f_X11_things_111 at h
  refine z_istore (L' := [some (.ref (z_ad g 48)), some (.int x1), some (.int x2), some (.int x3), some (.int x4), some (.int y0), none]) cx (by decide) rfl dX11_things_111 ?_
  refine z_bipush (v := 60) cx (by decide +kernel) dX11_things_113 ?_
  refine z_iload_n cx rfl rfl dX11_things_115 ?_
  refine z_imul cx dX11_things_116 ?_
  refine z_iload_n cx rfl rfl dX11_things_117 ?_
  refine z_iadd cx dX11_things_118 ?_
  refine z_iconst (v := 3) cx (by decide +kernel) dX11_things_119 ?_
  refine z_iload cx rfl dX11_things_120 ?_
  refine z_imul cx dX11_things_122 ?_
  refine z_iadd cx dX11_things_123 ?_
  refine z_istore (L' := [some (.ref (z_ad g 48)), some (.int x1), some (.int x2), some (.int x3), some (.int x4), some (.int y0), some (.int (((60 * x1) + x2) + (3 * x4)))]) cx (by decide) rfl dX11_things_124 ?_
  refine z_iload cx rfl dX11_things_126 ?_
  refine z_if_eq (tgt := 190) cx (by decide) dX11_things_128 (fun c1 => ?_) (fun c1 => ?_)
  · have h := g_t c1 h
    exact q_weak (z_wk_s (z_wk_s (z_wk_s (z_wk_s (z_wk_s (z_wk_n (z_wk_s (z_wk_0)))))))) (t_X11_things_190 n cx ce k69 hk69 x1 x2 x3 x4 (((60 * x1) + x2) + (3 * x4)) S h)
  · have h := g_f c1 h
    refine z_aload_n cx rfl rfl dX11_things_131 ?_
    refine q_getF (k := 48) (n := 68) (r := 20) cx z_cl11 (j := 44) (by decide) tb_161 rfl (by decide) rfl rfl rfl dX11_things_132 ?_
    refine z_iload cx rfl dX11_things_135 ?_
    obtain ⟨c2, h⟩ := g_if h
    refine q_lald cx (by decide) rfl c2 dX11_things_137 ?_
    refine z_lconst (v := 0) cx (by decide +kernel) dX11_things_138 ?_
    refine z_ldc2 cx tb_220 dX11_things_139 ?_
    obtain ⟨v3, S4, e5, h⟩ := g_bd_ex h
    refine q_csi (As := [.long (S.2.2.2.1 68 (((60 * x1) + x2) + (3 * x4)).toNatClampNeg), .long 0, .long 127]) cx mo_X11_within ms_X11_within tb_185 (by decide) rfl rfl (Nat.le_of_ble_eq_true rfl) dX11_things_142 (c_X11_within (S.2.2.2.1 68 (((60 * x1) + x2) + (3 * x4)).toNatClampNeg) 0 127 _ e5) ?_
    refine q_ifb_eq (tgt := 190) cx (by decide) dX11_things_145 (fun c6 => ?_) (fun c6 => ?_)
    · have h := g_f (Bool.eq_false_iff.mp c6) h
      exact q_weak (z_wk_s (z_wk_s (z_wk_s (z_wk_s (z_wk_s (z_wk_n (z_wk_s (z_wk_0)))))))) (t_X11_things_190 n cx ce k69 hk69 x1 x2 x3 x4 (((60 * x1) + x2) + (3 * x4)) S4 h)
    · have h := g_t c6 h
      refine z_aload_n cx rfl rfl dX11_things_148 ?_
      refine q_getF (k := 48) (n := 68) (r := 20) cx z_cl11 (j := 44) (by decide) tb_161 rfl (by decide) rfl rfl rfl dX11_things_149 ?_
      refine z_iload cx rfl dX11_things_152 ?_
      refine z_iconst (v := 1) cx (by decide +kernel) dX11_things_154 ?_
      refine z_iadd cx dX11_things_155 ?_
      obtain ⟨c7, h⟩ := g_if h
      refine q_lald cx (by decide) rfl c7 dX11_things_156 ?_
      refine z_lconst (v := 0) cx (by decide +kernel) dX11_things_157 ?_
      refine z_ldc2 cx tb_221 dX11_things_158 ?_
      obtain ⟨v8, S9, e10, h⟩ := g_bd_ex h
      refine q_csi (As := [.long (S4.2.2.2.1 68 ((((60 * x1) + x2) + (3 * x4)) + 1).toNatClampNeg), .long 0, .long 12]) cx mo_X11_within ms_X11_within tb_185 (by decide) rfl rfl (Nat.le_of_ble_eq_true rfl) dX11_things_161 (c_X11_within (S4.2.2.2.1 68 ((((60 * x1) + x2) + (3 * x4)) + 1).toNatClampNeg) 0 12 _ e10) ?_
      refine q_ifb_eq (tgt := 190) cx (by decide) dX11_things_164 (fun c11 => ?_) (fun c11 => ?_)
      · have h := g_f (Bool.eq_false_iff.mp c11) h
        exact q_weak (z_wk_s (z_wk_s (z_wk_s (z_wk_s (z_wk_s (z_wk_n (z_wk_s (z_wk_0)))))))) (t_X11_things_190 n cx ce k69 hk69 x1 x2 x3 x4 (((60 * x1) + x2) + (3 * x4)) S9 h)
      · have h := g_t c11 h
        refine z_aload_n cx rfl rfl dX11_things_167 ?_
        refine q_getF (k := 48) (n := 68) (r := 20) cx z_cl11 (j := 44) (by decide) tb_161 rfl (by decide) rfl rfl rfl dX11_things_168 ?_
        refine z_iload cx rfl dX11_things_171 ?_
        refine z_iconst (v := 2) cx (by decide +kernel) dX11_things_173 ?_
        refine z_iadd cx dX11_things_174 ?_
        obtain ⟨c12, h⟩ := g_if h
        refine q_lald cx (by decide) rfl c12 dX11_things_175 ?_
        refine z_lconst (v := 0) cx (by decide +kernel) dX11_things_176 ?_
        refine z_ldc2 cx tb_221 dX11_things_177 ?_
        obtain ⟨v13, S14, e15, h⟩ := g_bd_ex h
        refine q_csi (As := [.long (S9.2.2.2.1 68 ((((60 * x1) + x2) + (3 * x4)) + 2).toNatClampNeg), .long 0, .long 12]) cx mo_X11_within ms_X11_within tb_185 (by decide) rfl rfl (Nat.le_of_ble_eq_true rfl) dX11_things_180 (c_X11_within (S9.2.2.2.1 68 ((((60 * x1) + x2) + (3 * x4)) + 2).toNatClampNeg) 0 12 _ e15) ?_
        refine q_ifb_eq (tgt := 190) cx (by decide) dX11_things_183 (fun c16 => ?_) (fun c16 => ?_)
        · have h := g_f (Bool.eq_false_iff.mp c16) h
          exact q_weak (z_wk_s (z_wk_s (z_wk_s (z_wk_s (z_wk_s (z_wk_n (z_wk_s (z_wk_0)))))))) (t_X11_things_190 n cx ce k69 hk69 x1 x2 x3 x4 (((60 * x1) + x2) + (3 * x4)) S14 h)
        · have h := g_t c16 h
          refine z_iconst (v := 1) cx (by decide +kernel) dX11_things_186 ?_
          refine z_goto (tgt := 191) cx (by decide) dX11_things_187 ?_
          exact q_weak (z_wk_s (z_wk_s (z_wk_s (z_wk_s (z_wk_s (z_wk_n (z_wk_s (z_wk_0)))))))) (t_X11_things_191 n cx ce k69 hk69 x1 x2 x3 x4 (((60 * x1) + x2) + (3 * x4)) 1 S14 h)
def f_X11_things_110 (n : Nat) (k69 : Int32 → Int32 → Int32 → Int32 → Int32 → z_Stt → Option (Int32 × z_Stt)) (x1 : Int32) (x2 : Int32) (x3 : Int32) (x4 : Int32) (S : z_Stt) : Option (Int32 × z_Stt) :=
  f_X11_things_111 n k69 x1 x2 x3 x4 0 S
set_option maxHeartbeats 4000000 in
set_option maxRecDepth 100000 in
theorem t_X11_things_110 {g : z_G} {K : z_K} (n : Nat) {v : Int32} {S' : z_Stt} (cx : z_C g M_X11_things 2 K) (ce : z_E' g M_X11_things (z_P g (some (.int v)) S') K) (k69 : Int32 → Int32 → Int32 → Int32 → Int32 → z_Stt → Option (Int32 × z_Stt)) (hk69 : ∀ (x1 : Int32) (x2 : Int32) (x3 : Int32) (x4 : Int32) (x5 : Int32) (S : z_Stt), k69 x1 x2 x3 x4 x5 S = some (v, S') → z_At g M_X11_things K 69 [some (.ref (z_ad g 48)), some (.int x1), some (.int x2), some (.int x3), some (.int x4), some (.int x5), none] [] (hp g S)) (x1 : Int32) (x2 : Int32) (x3 : Int32) (x4 : Int32) (S : z_Stt) (h : f_X11_things_110 n k69 x1 x2 x3 x4 S = some (v, S')) : z_At g M_X11_things K 110 [some (.ref (z_ad g 48)), some (.int x1), some (.int x2), some (.int x3), some (.int x4), none, none] [] (hp g S) := by
  unfold f_X11_things_110 at h
  refine z_iconst (v := 0) cx (by decide +kernel) dX11_things_110 ?_
  exact q_weak (z_wk_s (z_wk_s (z_wk_s (z_wk_s (z_wk_s (z_wk_n (z_wk_n (z_wk_0)))))))) (t_X11_things_111 n cx ce k69 hk69 x1 x2 x3 x4 0 S h)
def f_X11_things_69 (n : Nat) : Nat → Int32 → Int32 → Int32 → Int32 → Int32 → z_Stt → Option (Int32 × z_Stt)
  | 0, _, _, _, _, _, _ => none
  | m + 1, x1, x2, x3, x4, x5, S =>
    if x5 = 0 then
      some (x4, S)
    else
      if x3 ≤ x4 then
        some (x4, S)
      else
        if ¬ (x1 < 0 ∨ 6 ≤ x1.toNatClampNeg) then
          if ((S.2.2.1 67 x1.toNatClampNeg) - 3) - (3 * x4) < x2 then
            f_X11_things_110 n (f_X11_things_69 n m) x1 x2 x3 x4 S
          else
            if 6 ≤ S.1 4806 then
              f_X11_things_110 n (f_X11_things_69 n m) x1 x2 x3 x4 S
            else
              f_X11_things_111 n (f_X11_things_69 n m) x1 x2 x3 x4 1 S
        else none
set_option maxHeartbeats 4000000 in
set_option maxRecDepth 100000 in
theorem t_X11_things_69 {g : z_G} {K : z_K} (n : Nat) {v : Int32} {S' : z_Stt} (cx : z_C g M_X11_things 2 K) (ce : z_E' g M_X11_things (z_P g (some (.int v)) S') K) : ∀ (m : Nat) (x1 : Int32) (x2 : Int32) (x3 : Int32) (x4 : Int32) (x5 : Int32) (S : z_Stt) (h : f_X11_things_69 n m x1 x2 x3 x4 x5 S = some (v, S')), z_At g M_X11_things K 69 [some (.ref (z_ad g 48)), some (.int x1), some (.int x2), some (.int x3), some (.int x4), some (.int x5), none] [] (hp g S) := by
  intro m
  induction m with
  | zero => intro x1 x2 x3 x4 x5 S h; simp [f_X11_things_69] at h
  | succ m ih =>
    intro x1 x2 x3 x4 x5 S h
    rw [f_X11_things_69] at h
    refine z_iload cx rfl dX11_things_69 ?_
    refine z_if_eq (tgt := 238) cx (by decide) dX11_things_71 (fun c1 => ?_) (fun c1 => ?_)
    · have h := g_t c1 h
      refine z_iload cx rfl dX11_things_238 ?_
      obtain ⟨rfl, rfl⟩ := g_some h
      exact z_ireturn cx ce rfl ⟨rfl, rfl⟩ dX11_things_240
    · have h := g_f c1 h
      refine z_iload cx rfl dX11_things_74 ?_
      refine z_iload_n cx rfl rfl dX11_things_76 ?_
      refine z_icmp_ge (tgt := 238) cx (by decide) dX11_things_77 (fun c2 => ?_) (fun c2 => ?_)
      · have h := g_t c2 h
        refine z_iload cx rfl dX11_things_238 ?_
        obtain ⟨rfl, rfl⟩ := g_some h
        exact z_ireturn cx ce rfl ⟨rfl, rfl⟩ dX11_things_240
      · have h := g_f c2 h
        refine z_iload_n cx rfl rfl dX11_things_80 ?_
        refine z_aload_n cx rfl rfl dX11_things_81 ?_
        refine q_getF (k := 48) (n := 67) (r := 19) cx z_cl11 (j := 43) (by decide) tb_160 rfl (by decide) rfl rfl rfl dX11_things_82 ?_
        refine z_iload_n cx rfl rfl dX11_things_85 ?_
        obtain ⟨c3, h⟩ := g_if h
        refine q_iald cx (by decide) rfl c3 dX11_things_86 ?_
        refine z_iconst (v := 3) cx (by decide +kernel) dX11_things_87 ?_
        refine z_isub cx dX11_things_88 ?_
        refine z_iconst (v := 3) cx (by decide +kernel) dX11_things_89 ?_
        refine z_iload cx rfl dX11_things_90 ?_
        refine z_imul cx dX11_things_92 ?_
        refine z_isub cx dX11_things_93 ?_
        refine z_icmp_gt (tgt := 110) cx (by decide) dX11_things_94 (fun c4 => ?_) (fun c4 => ?_)
        · have h := g_t c4 h
          exact q_weak (z_wk_s (z_wk_s (z_wk_s (z_wk_s (z_wk_s (z_wk_n (z_wk_n (z_wk_0)))))))) (t_X11_things_110 n cx ce (f_X11_things_69 n m) ih x1 x2 x3 x4 S h)
        · have h := g_f c4 h
          refine z_aload_n cx rfl rfl dX11_things_97 ?_
          refine q_getI (k := 48) (n := 4806) cx z_cl11 (j := 6) (by decide) tb_184 rfl (by decide) rfl rfl rfl dX11_things_98 ?_
          refine z_bipush (v := 6) cx (by decide +kernel) dX11_things_101 ?_
          refine z_icmp_ge (tgt := 110) cx (by decide) dX11_things_103 (fun c5 => ?_) (fun c5 => ?_)
          · have h := g_t c5 h
            exact q_weak (z_wk_s (z_wk_s (z_wk_s (z_wk_s (z_wk_s (z_wk_n (z_wk_n (z_wk_0)))))))) (t_X11_things_110 n cx ce (f_X11_things_69 n m) ih x1 x2 x3 x4 S h)
          · have h := g_f c5 h
            refine z_iconst (v := 1) cx (by decide +kernel) dX11_things_106 ?_
            refine z_goto (tgt := 111) cx (by decide) dX11_things_107 ?_
            exact q_weak (z_wk_s (z_wk_s (z_wk_s (z_wk_s (z_wk_s (z_wk_n (z_wk_n (z_wk_0)))))))) (t_X11_things_111 n cx ce (f_X11_things_69 n m) ih x1 x2 x3 x4 1 S h)
def f_X11_things_67 (n : Nat) (x1 : Int32) (x2 : Int32) (x3 : Int32) (x4 : Int32) (y0 : Int32) (S : z_Stt) : Option (Int32 × z_Stt) :=
  f_X11_things_69 n n x1 x2 x3 x4 y0 S
set_option maxHeartbeats 4000000 in
set_option maxRecDepth 100000 in
theorem t_X11_things_67 {g : z_G} {K : z_K} (n : Nat) {v : Int32} {S' : z_Stt} (cx : z_C g M_X11_things 2 K) (ce : z_E' g M_X11_things (z_P g (some (.int v)) S') K) (x1 : Int32) (x2 : Int32) (x3 : Int32) (x4 : Int32) (y0 : Int32) (S : z_Stt) (h : f_X11_things_67 n x1 x2 x3 x4 y0 S = some (v, S')) : z_At g M_X11_things K 67 [some (.ref (z_ad g 48)), some (.int x1), some (.int x2), some (.int x3), some (.int x4), none, none] [.int y0] (hp g S) := by
  unfold f_X11_things_67 at h
  refine z_istore (L' := [some (.ref (z_ad g 48)), some (.int x1), some (.int x2), some (.int x3), some (.int x4), some (.int y0), none]) cx (by decide) rfl dX11_things_67 ?_
  exact q_weak (z_wk_s (z_wk_s (z_wk_s (z_wk_s (z_wk_s (z_wk_s (z_wk_n (z_wk_0)))))))) (t_X11_things_69 n cx ce n x1 x2 x3 x4 y0 S h)
def f_X11_things_66 (n : Nat) (x1 : Int32) (x2 : Int32) (x3 : Int32) (x4 : Int32) (S : z_Stt) : Option (Int32 × z_Stt) :=
  f_X11_things_67 n x1 x2 x3 x4 0 S
set_option maxHeartbeats 4000000 in
set_option maxRecDepth 100000 in
theorem t_X11_things_66 {g : z_G} {K : z_K} (n : Nat) {v : Int32} {S' : z_Stt} (cx : z_C g M_X11_things 2 K) (ce : z_E' g M_X11_things (z_P g (some (.int v)) S') K) (x1 : Int32) (x2 : Int32) (x3 : Int32) (x4 : Int32) (S : z_Stt) (h : f_X11_things_66 n x1 x2 x3 x4 S = some (v, S')) : z_At g M_X11_things K 66 [some (.ref (z_ad g 48)), some (.int x1), some (.int x2), some (.int x3), some (.int x4), none, none] [] (hp g S) := by
  unfold f_X11_things_66 at h
  refine z_iconst (v := 0) cx (by decide +kernel) dX11_things_66 ?_
  exact q_weak (z_wk_s (z_wk_s (z_wk_s (z_wk_s (z_wk_s (z_wk_n (z_wk_n (z_wk_0)))))))) (t_X11_things_67 n cx ce x1 x2 x3 x4 0 S h)
def f_X11_things_44 (n : Nat) (x1 : Int32) (x2 : Int32) (x3 : Int32) (S : z_Stt) : Option (Int32 × z_Stt) :=
  if ¬ (x1 < 0 ∨ 6 ≤ x1.toNatClampNeg) then
    if S.2.2.1 66 x1.toNatClampNeg = 50 then
      if x2 < 0 then
        f_X11_things_66 n x1 x2 x3 0 S
      else
        f_X11_things_67 n x1 x2 x3 0 1 S
    else
      f_X11_things_66 n x1 x2 x3 0 S
  else none
set_option maxHeartbeats 4000000 in
set_option maxRecDepth 100000 in
theorem t_X11_things_44 {g : z_G} {K : z_K} (n : Nat) {v : Int32} {S' : z_Stt} (cx : z_C g M_X11_things 2 K) (ce : z_E' g M_X11_things (z_P g (some (.int v)) S') K) (x1 : Int32) (x2 : Int32) (x3 : Int32) (S : z_Stt) (h : f_X11_things_44 n x1 x2 x3 S = some (v, S')) : z_At g M_X11_things K 44 [some (.ref (z_ad g 48)), some (.int x1), some (.int x2), some (.int x3), none, none, none] [] (hp g S) := by
  unfold f_X11_things_44 at h
  refine z_iconst (v := 0) cx (by decide +kernel) dX11_things_44 ?_
  refine z_istore (L' := [some (.ref (z_ad g 48)), some (.int x1), some (.int x2), some (.int x3), some (.int 0), none, none]) cx (by decide) rfl dX11_things_45 ?_
  refine z_aload_n cx rfl rfl dX11_things_47 ?_
  refine q_getF (k := 48) (n := 66) (r := 18) cx z_cl11 (j := 42) (by decide) tb_159 rfl (by decide) rfl rfl rfl dX11_things_48 ?_
  refine z_iload_n cx rfl rfl dX11_things_51 ?_
  obtain ⟨c1, h⟩ := g_if h
  refine q_iald cx (by decide) rfl c1 dX11_things_52 ?_
  refine z_bipush (v := 50) cx (by decide +kernel) dX11_things_53 ?_
  refine z_icmp_ne (tgt := 66) cx (by decide) dX11_things_55 (fun c2 => ?_) (fun c2 => ?_)
  · have h := g_f c2 h
    exact q_weak (z_wk_s (z_wk_s (z_wk_s (z_wk_s (z_wk_s (z_wk_n (z_wk_n (z_wk_0)))))))) (t_X11_things_66 n cx ce x1 x2 x3 0 S h)
  · have h := g_t c2 h
    refine z_iload_n cx rfl rfl dX11_things_58 ?_
    refine z_if_lt (tgt := 66) cx (by decide) dX11_things_59 (fun c3 => ?_) (fun c3 => ?_)
    · have h := g_t c3 h
      exact q_weak (z_wk_s (z_wk_s (z_wk_s (z_wk_s (z_wk_s (z_wk_n (z_wk_n (z_wk_0)))))))) (t_X11_things_66 n cx ce x1 x2 x3 0 S h)
    · have h := g_f c3 h
      refine z_iconst (v := 1) cx (by decide +kernel) dX11_things_62 ?_
      refine z_goto (tgt := 67) cx (by decide) dX11_things_63 ?_
      exact q_weak (z_wk_s (z_wk_s (z_wk_s (z_wk_s (z_wk_s (z_wk_n (z_wk_n (z_wk_0)))))))) (t_X11_things_67 n cx ce x1 x2 x3 0 1 S h)
def f_X11_things (n : Nat) (a0 : Int32) (a1 : Int32) (a2 : Int32) (S : z_Stt) : Option (Int32 × z_Stt) :=
  g_bd (f_X11_isShelf a0 S) fun v1 S2 =>
  if v1 = true then
    g_bd (f_X11_within (Int32.toInt64 a2) 1 6 S2) fun v5 S6 =>
    if v5 = true then
      if ¬ (a0 < 0 ∨ 6 ≤ a0.toNatClampNeg) then
        if S6.2.2.1 66 a0.toNatClampNeg < 0 then
          f_X11_things_44 n a0 a1 a2 S6
        else
          if ¬ (a0 < 0 ∨ 6 ≤ a0.toNatClampNeg) then
            if S6.2.2.1 66 a0.toNatClampNeg = 50 then
              f_X11_things_44 n a0 a1 a2 S6
            else
              some ((-12), S6)
          else none
      else none
    else
      some ((-1), S6)
  else
    some ((-1), S2)
set_option maxHeartbeats 4000000 in
set_option maxRecDepth 100000 in
theorem t_X11_things {g : z_G} {K : z_K} (n : Nat) {v : Int32} {S' : z_Stt} (cx : z_C g M_X11_things 2 K) (ce : z_E' g M_X11_things (z_P g (some (.int v)) S') K) (a0 : Int32) (a1 : Int32) (a2 : Int32) (S : z_Stt) (h : f_X11_things n a0 a1 a2 S = some (v, S')) : z_At g M_X11_things K 0 [some (.ref (z_ad g 48)), some (.int a0), some (.int a1), some (.int a2), none, none, none] [] (hp g S) := by
  unfold f_X11_things at h
  refine z_iload_n cx rfl rfl dX11_things_0 ?_
  obtain ⟨v1, S2, e3, h⟩ := g_bd_ex h
  refine q_csi (As := [.int a0]) cx mo_X11_isShelf ms_X11_isShelf tb_222 (by decide) rfl rfl (Nat.le_of_ble_eq_true rfl) dX11_things_1 (c_X11_isShelf a0 _ e3) ?_
  refine q_ifb_eq (tgt := 19) cx (by decide) dX11_things_4 (fun c4 => ?_) (fun c4 => ?_)
  · have h := g_f (Bool.eq_false_iff.mp c4) h
    refine z_iconst (v := (-1)) cx (by decide +kernel) dX11_things_19 ?_
    obtain ⟨rfl, rfl⟩ := g_some h
    exact z_ireturn cx ce rfl ⟨rfl, rfl⟩ dX11_things_20
  · have h := g_t c4 h
    refine z_iload_n cx rfl rfl dX11_things_7 ?_
    refine z_i2l cx dX11_things_8 ?_
    refine z_lconst (v := 1) cx (by decide +kernel) dX11_things_9 ?_
    refine z_ldc2 cx tb_219 dX11_things_10 ?_
    obtain ⟨v5, S6, e7, h⟩ := g_bd_ex h
    refine q_csi (As := [.long (Int32.toInt64 a2), .long 1, .long 6]) cx mo_X11_within ms_X11_within tb_185 (by decide) rfl rfl (Nat.le_of_ble_eq_true rfl) dX11_things_13 (c_X11_within (Int32.toInt64 a2) 1 6 _ e7) ?_
    refine q_ifb_ne (tgt := 21) cx (by decide) dX11_things_16 (fun c8 => ?_) (fun c8 => ?_)
    · have h := g_t c8 h
      refine z_aload_n cx rfl rfl dX11_things_21 ?_
      refine q_getF (k := 48) (n := 66) (r := 18) cx z_cl11 (j := 42) (by decide) tb_159 rfl (by decide) rfl rfl rfl dX11_things_22 ?_
      refine z_iload_n cx rfl rfl dX11_things_25 ?_
      obtain ⟨c9, h⟩ := g_if h
      refine q_iald cx (by decide) rfl c9 dX11_things_26 ?_
      refine z_if_lt (tgt := 44) cx (by decide) dX11_things_27 (fun c10 => ?_) (fun c10 => ?_)
      · have h := g_t c10 h
        exact q_weak (z_wk_s (z_wk_s (z_wk_s (z_wk_s (z_wk_n (z_wk_n (z_wk_n (z_wk_0)))))))) (t_X11_things_44 n cx ce a0 a1 a2 S6 h)
      · have h := g_f c10 h
        refine z_aload_n cx rfl rfl dX11_things_30 ?_
        refine q_getF (k := 48) (n := 66) (r := 18) cx z_cl11 (j := 42) (by decide) tb_159 rfl (by decide) rfl rfl rfl dX11_things_31 ?_
        refine z_iload_n cx rfl rfl dX11_things_34 ?_
        obtain ⟨c11, h⟩ := g_if h
        refine q_iald cx (by decide) rfl c11 dX11_things_35 ?_
        refine z_bipush (v := 50) cx (by decide +kernel) dX11_things_36 ?_
        refine z_icmp_eq (tgt := 44) cx (by decide) dX11_things_38 (fun c12 => ?_) (fun c12 => ?_)
        · have h := g_t c12 h
          exact q_weak (z_wk_s (z_wk_s (z_wk_s (z_wk_s (z_wk_n (z_wk_n (z_wk_n (z_wk_0)))))))) (t_X11_things_44 n cx ce a0 a1 a2 S6 h)
        · have h := g_f c12 h
          refine z_bipush (v := (-12)) cx (by decide +kernel) dX11_things_41 ?_
          obtain ⟨rfl, rfl⟩ := g_some h
          exact z_ireturn cx ce rfl ⟨rfl, rfl⟩ dX11_things_43
    · have h := g_f (Bool.eq_false_iff.mp c8) h
      refine z_iconst (v := (-1)) cx (by decide +kernel) dX11_things_19 ?_
      obtain ⟨rfl, rfl⟩ := g_some h
      exact z_ireturn cx ce rfl ⟨rfl, rfl⟩ dX11_things_20
theorem c_X11_things {g : z_G} {n : Nat} (a0 : Int32) (a1 : Int32) (a2 : Int32) (S : z_Stt) {v : Int32} {S' : z_Stt} (h : f_X11_things n a0 a1 a2 S = some (v, S')) : z_Ct g M_X11_things 2 [.ref (z_ad g 48), .int a0, .int a1, .int a2] (hp g S) (z_P g (some (.int v)) S') :=
  z_Ct.of (by decide +kernel) rfl (Nat.le_of_ble_eq_true rfl) (fun K cx ce => q_weak (L' := [some (.ref (z_ad g 48)), some (.int a0), some (.int a1), some (.int a2), none, none, none]) (z_wk_s (z_wk_s (z_wk_s (z_wk_s (z_wk_e (z_wk_e (z_wk_e (z_wk_0)))))))) (t_X11_things n cx ce a0 a1 a2 S h))
abbrev M_X11_isRoom : z_M := (RX11, yX11_isRoom, cX11_isRoom, 2, some .boolean)
theorem mo_X11_isRoom : z_mo M_X11_isRoom 1 := ⟨tb_283, tb_5, rfl, ⟨by decide +kernel, by decide +kernel⟩, by decide +kernel, by decide⟩
theorem ms_X11_isRoom : z_ms M_X11_isRoom := tb_282
def f_X11_isRoom (a0 : Int64) (S : z_Stt) : Option (Bool × z_Stt) :=
  g_bd (f_X11_within a0 0 5 S) fun v1 S2 =>
  some (v1, S2)
set_option maxHeartbeats 4000000 in
set_option maxRecDepth 100000 in
theorem t_X11_isRoom {g : z_G} {K : z_K} {v : Bool} {S' : z_Stt} (cx : z_C g M_X11_isRoom 1 K) (ce : z_E' g M_X11_isRoom (z_P g (some (.int (bI v))) S') K) (a0 : Int64) (S : z_Stt) (h : f_X11_isRoom a0 S = some (v, S')) : z_At g M_X11_isRoom K 0 [some (.long a0), none] [] (hp g S) := by
  unfold f_X11_isRoom at h
  refine z_lload_n cx rfl rfl dX11_isRoom_0 ?_
  refine z_lconst (v := 0) cx (by decide +kernel) dX11_isRoom_1 ?_
  refine z_ldc2 cx tb_225 dX11_isRoom_2 ?_
  obtain ⟨v1, S2, e3, h⟩ := g_bd_ex h
  refine q_csi (As := [.long a0, .long 0, .long 5]) cx mo_X11_within ms_X11_within tb_185 (by decide) rfl rfl (Nat.le_of_ble_eq_true rfl) dX11_isRoom_5 (c_X11_within a0 0 5 _ e3) ?_
  obtain ⟨rfl, rfl⟩ := g_some h
  exact z_zreturn cx ce rfl (bI_nar _) ⟨rfl, rfl⟩ dX11_isRoom_8
theorem c_X11_isRoom {g : z_G} (a0 : Int64) (S : z_Stt) {v : Bool} {S' : z_Stt} (h : f_X11_isRoom a0 S = some (v, S')) : z_Ct g M_X11_isRoom 1 [.long a0] (hp g S) (z_P g (some (.int (bI v))) S') :=
  z_Ct.of (by decide +kernel) rfl (Nat.le_of_ble_eq_true rfl) (fun K cx ce => q_weak (L' := [some (.long a0), none]) (z_wk_s (z_wk_n (z_wk_0))) (t_X11_isRoom cx ce a0 S h))
abbrev M_X11_wayAt : z_M := (RX11, yX11_wayAt, cX11_wayAt, 2, some .int)
theorem mo_X11_wayAt : z_mo M_X11_wayAt 2 := ⟨tb_286, tb_5, rfl, ⟨by decide +kernel, by decide +kernel⟩, by decide +kernel, by decide⟩
theorem ms_X11_wayAt : z_ms M_X11_wayAt := tb_285
def f_X11_wayAt (a0 : Int32) (a1 : Int32) (S : z_Stt) : Option (Int32 × z_Stt) :=
  if a1 ≤ a0 then
    some ((39 + (6 * a1)) + a0, S)
  else
    some ((39 + (6 * a0)) + a1, S)
set_option maxHeartbeats 4000000 in
set_option maxRecDepth 100000 in
theorem t_X11_wayAt {g : z_G} {K : z_K} {v : Int32} {S' : z_Stt} (cx : z_C g M_X11_wayAt 0 K) (ce : z_E' g M_X11_wayAt (z_P g (some (.int v)) S') K) (a0 : Int32) (a1 : Int32) (S : z_Stt) (h : f_X11_wayAt a0 a1 S = some (v, S')) : z_At g M_X11_wayAt K 0 [some (.int a0), some (.int a1)] [] (hp g S) := by
  unfold f_X11_wayAt at h
  refine z_iload_n cx rfl rfl dX11_wayAt_0 ?_
  refine z_iload_n cx rfl rfl dX11_wayAt_1 ?_
  refine z_icmp_ge (tgt := 17) cx (by decide) dX11_wayAt_2 (fun c1 => ?_) (fun c1 => ?_)
  · have h := g_t c1 h
    refine z_bipush (v := 39) cx (by decide +kernel) dX11_wayAt_17 ?_
    refine z_bipush (v := 6) cx (by decide +kernel) dX11_wayAt_19 ?_
    refine z_iload_n cx rfl rfl dX11_wayAt_21 ?_
    refine z_imul cx dX11_wayAt_22 ?_
    refine z_iadd cx dX11_wayAt_23 ?_
    refine z_iload_n cx rfl rfl dX11_wayAt_24 ?_
    refine z_iadd cx dX11_wayAt_25 ?_
    obtain ⟨rfl, rfl⟩ := g_some h
    exact z_ireturn cx ce rfl ⟨rfl, rfl⟩ dX11_wayAt_26
  · have h := g_f c1 h
    refine z_bipush (v := 39) cx (by decide +kernel) dX11_wayAt_5 ?_
    refine z_bipush (v := 6) cx (by decide +kernel) dX11_wayAt_7 ?_
    refine z_iload_n cx rfl rfl dX11_wayAt_9 ?_
    refine z_imul cx dX11_wayAt_10 ?_
    refine z_iadd cx dX11_wayAt_11 ?_
    refine z_iload_n cx rfl rfl dX11_wayAt_12 ?_
    refine z_iadd cx dX11_wayAt_13 ?_
    refine z_goto (tgt := 26) cx (by decide) dX11_wayAt_14 ?_
    obtain ⟨rfl, rfl⟩ := g_some h
    exact z_ireturn cx ce rfl ⟨rfl, rfl⟩ dX11_wayAt_26
theorem c_X11_wayAt {g : z_G} (a0 : Int32) (a1 : Int32) (S : z_Stt) {v : Int32} {S' : z_Stt} (h : f_X11_wayAt a0 a1 S = some (v, S')) : z_Ct g M_X11_wayAt 0 [.int a0, .int a1] (hp g S) (z_P g (some (.int v)) S') :=
  z_Ct.of (by decide +kernel) rfl (Nat.le_of_ble_eq_true rfl) (fun K cx ce => q_weak (L' := [some (.int a0), some (.int a1)]) (z_wk_s (z_wk_s (z_wk_0))) (t_X11_wayAt cx ce a0 a1 S h))
abbrev M_X11_isTwo : z_M := (RX11, yX11_isTwo, cX11_isTwo, 1, some .boolean)
theorem mo_X11_isTwo : z_mo M_X11_isTwo 1 := ⟨tb_280, tb_5, rfl, ⟨by decide +kernel, by decide +kernel⟩, by decide +kernel, by decide⟩
theorem ms_X11_isTwo : z_ms M_X11_isTwo := tb_279
def f_X11_isTwo (a0 : Int32) (S : z_Stt) : Option (Bool × z_Stt) :=
  if a0 < 0 then
    some (false, S)
  else
    g_bd (f_X11_isRoom (Int32.toInt64 (a0 / 10)) S) fun v2 S3 =>
    if v2 = true then
      g_bd (f_X11_isRoom (Int32.toInt64 (a0 % 10)) S3) fun v6 S7 =>
      if v6 = true then
        if a0 / 10 = a0 % 10 then
          some (false, S7)
        else
          some (true, S7)
      else
        some (false, S7)
    else
      some (false, S3)
set_option maxHeartbeats 4000000 in
set_option maxRecDepth 100000 in
theorem t_X11_isTwo {g : z_G} {K : z_K} {v : Bool} {S' : z_Stt} (cx : z_C g M_X11_isTwo 2 K) (ce : z_E' g M_X11_isTwo (z_P g (some (.int (bI v))) S') K) (a0 : Int32) (S : z_Stt) (h : f_X11_isTwo a0 S = some (v, S')) : z_At g M_X11_isTwo K 0 [some (.int a0)] [] (hp g S) := by
  unfold f_X11_isTwo at h
  refine z_iload_n cx rfl rfl dX11_isTwo_0 ?_
  refine z_if_lt (tgt := 41) cx (by decide) dX11_isTwo_1 (fun c1 => ?_) (fun c1 => ?_)
  · have h := g_t c1 h
    refine z_iconst (v := 0) cx (by decide +kernel) dX11_isTwo_41 ?_
    obtain ⟨rfl, rfl⟩ := g_some h
    exact z_zreturn cx ce rfl (by decide +kernel) ⟨rfl, rfl⟩ dX11_isTwo_42
  · have h := g_f c1 h
    refine z_iload_n cx rfl rfl dX11_isTwo_4 ?_
    refine z_bipush (v := 10) cx (by decide +kernel) dX11_isTwo_5 ?_
    refine z_idiv cx (by decide +kernel) dX11_isTwo_7 ?_
    refine z_i2l cx dX11_isTwo_8 ?_
    obtain ⟨v2, S3, e4, h⟩ := g_bd_ex h
    refine q_csi (As := [.long (Int32.toInt64 (a0 / 10))]) cx mo_X11_isRoom ms_X11_isRoom tb_281 (by decide) rfl rfl (Nat.le_of_ble_eq_true rfl) dX11_isTwo_9 (c_X11_isRoom (Int32.toInt64 (a0 / 10)) _ e4) ?_
    refine q_ifb_eq (tgt := 41) cx (by decide) dX11_isTwo_12 (fun c5 => ?_) (fun c5 => ?_)
    · have h := g_f (Bool.eq_false_iff.mp c5) h
      refine z_iconst (v := 0) cx (by decide +kernel) dX11_isTwo_41 ?_
      obtain ⟨rfl, rfl⟩ := g_some h
      exact z_zreturn cx ce rfl (by decide +kernel) ⟨rfl, rfl⟩ dX11_isTwo_42
    · have h := g_t c5 h
      refine z_iload_n cx rfl rfl dX11_isTwo_15 ?_
      refine z_bipush (v := 10) cx (by decide +kernel) dX11_isTwo_16 ?_
      refine z_irem cx (by decide +kernel) dX11_isTwo_18 ?_
      refine z_i2l cx dX11_isTwo_19 ?_
      obtain ⟨v6, S7, e8, h⟩ := g_bd_ex h
      refine q_csi (As := [.long (Int32.toInt64 (a0 % 10))]) cx mo_X11_isRoom ms_X11_isRoom tb_281 (by decide) rfl rfl (Nat.le_of_ble_eq_true rfl) dX11_isTwo_20 (c_X11_isRoom (Int32.toInt64 (a0 % 10)) _ e8) ?_
      refine q_ifb_eq (tgt := 41) cx (by decide) dX11_isTwo_23 (fun c9 => ?_) (fun c9 => ?_)
      · have h := g_f (Bool.eq_false_iff.mp c9) h
        refine z_iconst (v := 0) cx (by decide +kernel) dX11_isTwo_41 ?_
        obtain ⟨rfl, rfl⟩ := g_some h
        exact z_zreturn cx ce rfl (by decide +kernel) ⟨rfl, rfl⟩ dX11_isTwo_42
      · have h := g_t c9 h
        refine z_iload_n cx rfl rfl dX11_isTwo_26 ?_
        refine z_bipush (v := 10) cx (by decide +kernel) dX11_isTwo_27 ?_
        refine z_idiv cx (by decide +kernel) dX11_isTwo_29 ?_
        refine z_iload_n cx rfl rfl dX11_isTwo_30 ?_
        refine z_bipush (v := 10) cx (by decide +kernel) dX11_isTwo_31 ?_
        refine z_irem cx (by decide +kernel) dX11_isTwo_33 ?_
        refine z_icmp_eq (tgt := 41) cx (by decide) dX11_isTwo_34 (fun c10 => ?_) (fun c10 => ?_)
        · have h := g_t c10 h
          refine z_iconst (v := 0) cx (by decide +kernel) dX11_isTwo_41 ?_
          obtain ⟨rfl, rfl⟩ := g_some h
          exact z_zreturn cx ce rfl (by decide +kernel) ⟨rfl, rfl⟩ dX11_isTwo_42
        · have h := g_f c10 h
          refine z_iconst (v := 1) cx (by decide +kernel) dX11_isTwo_37 ?_
          refine z_goto (tgt := 42) cx (by decide) dX11_isTwo_38 ?_
          obtain ⟨rfl, rfl⟩ := g_some h
          exact z_zreturn cx ce rfl (by decide +kernel) ⟨rfl, rfl⟩ dX11_isTwo_42
theorem c_X11_isTwo {g : z_G} (a0 : Int32) (S : z_Stt) {v : Bool} {S' : z_Stt} (h : f_X11_isTwo a0 S = some (v, S')) : z_Ct g M_X11_isTwo 2 [.int a0] (hp g S) (z_P g (some (.int (bI v))) S') :=
  z_Ct.of (by decide +kernel) rfl (Nat.le_of_ble_eq_true rfl) (fun K cx ce => q_weak (L' := [some (.int a0)]) (z_wk_s (z_wk_0)) (t_X11_isTwo cx ce a0 S h))
abbrev M_X11_placeOf : z_M := (RX11, yX11_placeOf, cX11_placeOf, 3, some .int)
theorem mo_X11_placeOf : z_mo M_X11_placeOf 2 := ⟨tb_272, tb_5, rfl, ⟨by decide +kernel, by decide +kernel⟩, by decide +kernel, by decide⟩
theorem mv_X11_placeOf : z_mv M_X11_placeOf := ⟨tb_270, tb_271⟩
def f_X11_placeOf (a0 : Int32) (a1 : Int32) (S : z_Stt) : Option (Int32 × z_Stt) :=
  g_bd (f_X11_within (Int32.toInt64 a1) 0 5 S) fun v1 S2 =>
  if v1 = true then
    g_bd (f_X11_isThing (Int32.toInt64 a0) S2) fun v18 S19 =>
    if v18 = true then
      some ((6 * a1) + a0, S19)
    else
      some ((-1), S19)
  else
    g_bd (f_X11_within (Int32.toInt64 a1) 6 8 S2) fun v5 S6 =>
    if v5 = true then
      if a0 = 0 then
        some ((36 + a1) - 6, S6)
      else
        some ((-1), S6)
    else
      if a1 = 9 then
        g_bd (f_X11_isTwo a0 S6) fun v10 S11 =>
        if v10 = true then
          g_bd (f_X11_wayAt (a0 / 10) (a0 % 10) S11) fun v14 S15 =>
          some (v14, S15)
        else
          some ((-1), S11)
      else
        some ((-1), S6)
set_option maxHeartbeats 4000000 in
set_option maxRecDepth 100000 in
theorem t_X11_placeOf {g : z_G} {K : z_K} {v : Int32} {S' : z_Stt} (cx : z_C g M_X11_placeOf 3 K) (ce : z_E' g M_X11_placeOf (z_P g (some (.int v)) S') K) (a0 : Int32) (a1 : Int32) (S : z_Stt) (h : f_X11_placeOf a0 a1 S = some (v, S')) : z_At g M_X11_placeOf K 0 [some (.ref (z_ad g 48)), some (.int a0), some (.int a1)] [] (hp g S) := by
  unfold f_X11_placeOf at h
  refine z_iload_n cx rfl rfl dX11_placeOf_0 ?_
  refine z_i2l cx dX11_placeOf_1 ?_
  refine z_lconst (v := 0) cx (by decide +kernel) dX11_placeOf_2 ?_
  refine z_ldc2 cx tb_225 dX11_placeOf_3 ?_
  obtain ⟨v1, S2, e3, h⟩ := g_bd_ex h
  refine q_csi (As := [.long (Int32.toInt64 a1), .long 0, .long 5]) cx mo_X11_within ms_X11_within tb_185 (by decide) rfl rfl (Nat.le_of_ble_eq_true rfl) dX11_placeOf_6 (c_X11_within (Int32.toInt64 a1) 0 5 _ e3) ?_
  refine q_ifb_eq (tgt := 32) cx (by decide) dX11_placeOf_9 (fun c4 => ?_) (fun c4 => ?_)
  · have h := g_f (Bool.eq_false_iff.mp c4) h
    refine z_iload_n cx rfl rfl dX11_placeOf_32 ?_
    refine z_i2l cx dX11_placeOf_33 ?_
    refine z_ldc2 cx tb_219 dX11_placeOf_34 ?_
    refine z_ldc2 cx tb_273 dX11_placeOf_37 ?_
    obtain ⟨v5, S6, e7, h⟩ := g_bd_ex h
    refine q_csi (As := [.long (Int32.toInt64 a1), .long 6, .long 8]) cx mo_X11_within ms_X11_within tb_185 (by decide) rfl rfl (Nat.le_of_ble_eq_true rfl) dX11_placeOf_40 (c_X11_within (Int32.toInt64 a1) 6 8 _ e7) ?_
    refine q_ifb_eq (tgt := 62) cx (by decide) dX11_placeOf_43 (fun c8 => ?_) (fun c8 => ?_)
    · have h := g_f (Bool.eq_false_iff.mp c8) h
      refine z_iload_n cx rfl rfl dX11_placeOf_62 ?_
      refine z_bipush (v := 9) cx (by decide +kernel) dX11_placeOf_63 ?_
      refine z_icmp_ne (tgt := 89) cx (by decide) dX11_placeOf_65 (fun c9 => ?_) (fun c9 => ?_)
      · have h := g_f c9 h
        refine z_iconst (v := (-1)) cx (by decide +kernel) dX11_placeOf_89 ?_
        obtain ⟨rfl, rfl⟩ := g_some h
        exact z_ireturn cx ce rfl ⟨rfl, rfl⟩ dX11_placeOf_90
      · have h := g_t c9 h
        refine z_iload_n cx rfl rfl dX11_placeOf_68 ?_
        obtain ⟨v10, S11, e12, h⟩ := g_bd_ex h
        refine q_csi (As := [.int a0]) cx mo_X11_isTwo ms_X11_isTwo tb_278 (by decide) rfl rfl (Nat.le_of_ble_eq_true rfl) dX11_placeOf_69 (c_X11_isTwo a0 _ e12) ?_
        refine q_ifb_eq (tgt := 89) cx (by decide) dX11_placeOf_72 (fun c13 => ?_) (fun c13 => ?_)
        · have h := g_f (Bool.eq_false_iff.mp c13) h
          refine z_iconst (v := (-1)) cx (by decide +kernel) dX11_placeOf_89 ?_
          obtain ⟨rfl, rfl⟩ := g_some h
          exact z_ireturn cx ce rfl ⟨rfl, rfl⟩ dX11_placeOf_90
        · have h := g_t c13 h
          refine z_iload_n cx rfl rfl dX11_placeOf_75 ?_
          refine z_bipush (v := 10) cx (by decide +kernel) dX11_placeOf_76 ?_
          refine z_idiv cx (by decide +kernel) dX11_placeOf_78 ?_
          refine z_iload_n cx rfl rfl dX11_placeOf_79 ?_
          refine z_bipush (v := 10) cx (by decide +kernel) dX11_placeOf_80 ?_
          refine z_irem cx (by decide +kernel) dX11_placeOf_82 ?_
          obtain ⟨v14, S15, e16, h⟩ := g_bd_ex h
          refine q_csi (As := [.int (a0 / 10), .int (a0 % 10)]) cx mo_X11_wayAt ms_X11_wayAt tb_284 (by decide) rfl rfl (Nat.le_of_ble_eq_true rfl) dX11_placeOf_83 (c_X11_wayAt (a0 / 10) (a0 % 10) _ e16) ?_
          refine z_goto (tgt := 90) cx (by decide) dX11_placeOf_86 ?_
          obtain ⟨rfl, rfl⟩ := g_some h
          exact z_ireturn cx ce rfl ⟨rfl, rfl⟩ dX11_placeOf_90
    · have h := g_t c8 h
      refine z_iload_n cx rfl rfl dX11_placeOf_46 ?_
      refine z_if_ne (tgt := 60) cx (by decide) dX11_placeOf_47 (fun c17 => ?_) (fun c17 => ?_)
      · have h := g_f c17 h
        refine z_iconst (v := (-1)) cx (by decide +kernel) dX11_placeOf_60 ?_
        obtain ⟨rfl, rfl⟩ := g_some h
        exact z_ireturn cx ce rfl ⟨rfl, rfl⟩ dX11_placeOf_61
      · have h := g_t c17 h
        refine z_bipush (v := 36) cx (by decide +kernel) dX11_placeOf_50 ?_
        refine z_iload_n cx rfl rfl dX11_placeOf_52 ?_
        refine z_iadd cx dX11_placeOf_53 ?_
        refine z_bipush (v := 6) cx (by decide +kernel) dX11_placeOf_54 ?_
        refine z_isub cx dX11_placeOf_56 ?_
        refine z_goto (tgt := 61) cx (by decide) dX11_placeOf_57 ?_
        obtain ⟨rfl, rfl⟩ := g_some h
        exact z_ireturn cx ce rfl ⟨rfl, rfl⟩ dX11_placeOf_61
  · have h := g_t c4 h
    refine z_aload_n cx rfl rfl dX11_placeOf_12 ?_
    refine z_iload_n cx rfl rfl dX11_placeOf_13 ?_
    refine z_i2l cx dX11_placeOf_14 ?_
    obtain ⟨v18, S19, e20, h⟩ := g_bd_ex h
    refine q_cvi (As := [.long (Int32.toInt64 a0)]) cx mo_X11_isThing mv_X11_isThing z_cl11 rfl tb_274 (by decide) rfl (by decide) rfl rfl (Nat.le_of_ble_eq_true rfl) dX11_placeOf_15 (c_X11_isThing (Int32.toInt64 a0) _ e20) ?_
    refine q_ifb_eq (tgt := 30) cx (by decide) dX11_placeOf_18 (fun c21 => ?_) (fun c21 => ?_)
    · have h := g_f (Bool.eq_false_iff.mp c21) h
      refine z_iconst (v := (-1)) cx (by decide +kernel) dX11_placeOf_30 ?_
      obtain ⟨rfl, rfl⟩ := g_some h
      exact z_ireturn cx ce rfl ⟨rfl, rfl⟩ dX11_placeOf_31
    · have h := g_t c21 h
      refine z_bipush (v := 6) cx (by decide +kernel) dX11_placeOf_21 ?_
      refine z_iload_n cx rfl rfl dX11_placeOf_23 ?_
      refine z_imul cx dX11_placeOf_24 ?_
      refine z_iload_n cx rfl rfl dX11_placeOf_25 ?_
      refine z_iadd cx dX11_placeOf_26 ?_
      refine z_goto (tgt := 31) cx (by decide) dX11_placeOf_27 ?_
      obtain ⟨rfl, rfl⟩ := g_some h
      exact z_ireturn cx ce rfl ⟨rfl, rfl⟩ dX11_placeOf_31
theorem c_X11_placeOf {g : z_G} (a0 : Int32) (a1 : Int32) (S : z_Stt) {v : Int32} {S' : z_Stt} (h : f_X11_placeOf a0 a1 S = some (v, S')) : z_Ct g M_X11_placeOf 3 [.ref (z_ad g 48), .int a0, .int a1] (hp g S) (z_P g (some (.int v)) S') :=
  z_Ct.of (by decide +kernel) rfl (Nat.le_of_ble_eq_true rfl) (fun K cx ce => q_weak (L' := [some (.ref (z_ad g 48)), some (.int a0), some (.int a1)]) (z_wk_s (z_wk_s (z_wk_s (z_wk_0)))) (t_X11_placeOf cx ce a0 a1 S h))
abbrev M_X11_mostOf : z_M := (RX11, yX11_mostOf, cX11_mostOf, 1, some .int)
theorem mo_X11_mostOf : z_mo M_X11_mostOf 1 := ⟨tb_289, tb_5, rfl, ⟨by decide +kernel, by decide +kernel⟩, by decide +kernel, by decide⟩
theorem ms_X11_mostOf : z_ms M_X11_mostOf := tb_288
def f_X11_mostOf (a0 : Int32) (S : z_Stt) : Option (Int32 × z_Stt) :=
  if a0 = 0 then
    some (144, S)
  else if a0 = 1 then
    some (12, S)
  else if a0 = 2 then
    some (12, S)
  else if a0 = 3 then
    some (999, S)
  else if a0 = 4 then
    some (1, S)
  else if a0 = 5 then
    some (5, S)
  else 
    some (99, S)
set_option maxHeartbeats 4000000 in
set_option maxRecDepth 100000 in
theorem t_X11_mostOf {g : z_G} {K : z_K} {v : Int32} {S' : z_Stt} (cx : z_C g M_X11_mostOf 0 K) (ce : z_E' g M_X11_mostOf (z_P g (some (.int v)) S') K) (a0 : Int32) (S : z_Stt) (h : f_X11_mostOf a0 S = some (v, S')) : z_At g M_X11_mostOf K 0 [some (.int a0)] [] (hp g S) := by
  unfold f_X11_mostOf at h
  refine z_iload_n cx rfl rfl dX11_mostOf_0 ?_
  by_cases c1 : a0 = 0
  · have h := g_t c1 h
    refine z_tableIn (tgt := 40) (off := 39) cx (by rw [c1]; decide +kernel) (by rw [c1]; decide +kernel) (by rw [c1]; decide +kernel) (by decide) dX11_mostOf_1 ?_
    refine z_sipush (v := 144) cx (by decide +kernel) dX11_mostOf_40 ?_
    obtain ⟨rfl, rfl⟩ := g_some h
    exact z_ireturn cx ce rfl ⟨rfl, rfl⟩ dX11_mostOf_43
  have h := g_f c1 h
  by_cases c2 : a0 = 1
  · have h := g_t c2 h
    refine z_tableIn (tgt := 44) (off := 43) cx (by rw [c2]; decide +kernel) (by rw [c2]; decide +kernel) (by rw [c2]; decide +kernel) (by decide) dX11_mostOf_1 ?_
    refine z_bipush (v := 12) cx (by decide +kernel) dX11_mostOf_44 ?_
    obtain ⟨rfl, rfl⟩ := g_some h
    exact z_ireturn cx ce rfl ⟨rfl, rfl⟩ dX11_mostOf_46
  have h := g_f c2 h
  by_cases c3 : a0 = 2
  · have h := g_t c3 h
    refine z_tableIn (tgt := 44) (off := 43) cx (by rw [c3]; decide +kernel) (by rw [c3]; decide +kernel) (by rw [c3]; decide +kernel) (by decide) dX11_mostOf_1 ?_
    refine z_bipush (v := 12) cx (by decide +kernel) dX11_mostOf_44 ?_
    obtain ⟨rfl, rfl⟩ := g_some h
    exact z_ireturn cx ce rfl ⟨rfl, rfl⟩ dX11_mostOf_46
  have h := g_f c3 h
  by_cases c4 : a0 = 3
  · have h := g_t c4 h
    refine z_tableIn (tgt := 47) (off := 46) cx (by rw [c4]; decide +kernel) (by rw [c4]; decide +kernel) (by rw [c4]; decide +kernel) (by decide) dX11_mostOf_1 ?_
    refine z_sipush (v := 999) cx (by decide +kernel) dX11_mostOf_47 ?_
    obtain ⟨rfl, rfl⟩ := g_some h
    exact z_ireturn cx ce rfl ⟨rfl, rfl⟩ dX11_mostOf_50
  have h := g_f c4 h
  by_cases c5 : a0 = 4
  · have h := g_t c5 h
    refine z_tableIn (tgt := 51) (off := 50) cx (by rw [c5]; decide +kernel) (by rw [c5]; decide +kernel) (by rw [c5]; decide +kernel) (by decide) dX11_mostOf_1 ?_
    refine z_iconst (v := 1) cx (by decide +kernel) dX11_mostOf_51 ?_
    obtain ⟨rfl, rfl⟩ := g_some h
    exact z_ireturn cx ce rfl ⟨rfl, rfl⟩ dX11_mostOf_52
  have h := g_f c5 h
  by_cases c6 : a0 = 5
  · have h := g_t c6 h
    refine z_tableIn (tgt := 53) (off := 52) cx (by rw [c6]; decide +kernel) (by rw [c6]; decide +kernel) (by rw [c6]; decide +kernel) (by decide) dX11_mostOf_1 ?_
    refine z_iconst (v := 5) cx (by decide +kernel) dX11_mostOf_53 ?_
    obtain ⟨rfl, rfl⟩ := g_some h
    exact z_ireturn cx ce rfl ⟨rfl, rfl⟩ dX11_mostOf_54
  have h := g_f c6 h
  refine q_tableD (tgt := 55) (lo := 0) (hi := 5) cx [0, 1, 2, 3, 4, 5] (by decide +kernel) (by intro a ha; simp only [List.mem_cons, List.not_mem_nil, or_false] at ha; rcases ha with rfl | rfl | rfl | rfl | rfl | rfl <;> assumption) (by decide) dX11_mostOf_1 ?_
  refine z_bipush (v := 99) cx (by decide +kernel) dX11_mostOf_55 ?_
  obtain ⟨rfl, rfl⟩ := g_some h
  exact z_ireturn cx ce rfl ⟨rfl, rfl⟩ dX11_mostOf_57
theorem c_X11_mostOf {g : z_G} (a0 : Int32) (S : z_Stt) {v : Int32} {S' : z_Stt} (h : f_X11_mostOf a0 S = some (v, S')) : z_Ct g M_X11_mostOf 0 [.int a0] (hp g S) (z_P g (some (.int v)) S') :=
  z_Ct.of (by decide +kernel) rfl (Nat.le_of_ble_eq_true rfl) (fun K cx ce => q_weak (L' := [some (.int a0)]) (z_wk_s (z_wk_0)) (t_X11_mostOf cx ce a0 S h))
abbrev M_X11_mend : z_M := (RX11, yX11_mend, cX11_mend, 5, some .int)
theorem mo_X11_mend : z_mo M_X11_mend 3 := ⟨tb_268, tb_5, rfl, ⟨by decide +kernel, by decide +kernel⟩, by decide +kernel, by decide⟩
theorem mv_X11_mend : z_mv M_X11_mend := ⟨tb_266, tb_267⟩
def f_X11_mend (n : Nat) (a0 : Int32) (a1 : Int32) (a2 : Int32) (S : z_Stt) : Option (Int32 × z_Stt) :=
  g_bd (f_X11_placeOf a0 a1 S) fun v1 S2 =>
  if v1 < 0 then
    some ((-1), S2)
  else
    g_bd (f_X11_mostOf a1 S2) fun v5 S6 =>
    g_bd (f_X11_within (Int32.toInt64 a2) 0 (Int32.toInt64 v5) S6) fun v8 S9 =>
    if v8 = true then
      g_bd (f_X11_becomes n v1 a2 S9) fun v12 S13 =>
      some (v12, S13)
    else
      some ((-1), S9)
set_option maxHeartbeats 4000000 in
set_option maxRecDepth 100000 in
theorem t_X11_mend {g : z_G} {K : z_K} (n : Nat) {v : Int32} {S' : z_Stt} (cx : z_C g M_X11_mend 4 K) (ce : z_E' g M_X11_mend (z_P g (some (.int v)) S') K) (a0 : Int32) (a1 : Int32) (a2 : Int32) (S : z_Stt) (h : f_X11_mend n a0 a1 a2 S = some (v, S')) : z_At g M_X11_mend K 0 [some (.ref (z_ad g 48)), some (.int a0), some (.int a1), some (.int a2), none] [] (hp g S) := by
  unfold f_X11_mend at h
  refine z_aload_n cx rfl rfl dX11_mend_0 ?_
  refine z_iload_n cx rfl rfl dX11_mend_1 ?_
  refine z_iload_n cx rfl rfl dX11_mend_2 ?_
  obtain ⟨v1, S2, e3, h⟩ := g_bd_ex h
  refine q_cvi (As := [.int a0, .int a1]) cx mo_X11_placeOf mv_X11_placeOf z_cl11 rfl tb_269 (by decide) rfl (by decide) rfl rfl (Nat.le_of_ble_eq_true rfl) dX11_mend_3 (c_X11_placeOf a0 a1 _ e3) ?_
  refine z_istore (L' := [some (.ref (z_ad g 48)), some (.int a0), some (.int a1), some (.int a2), some (.int v1)]) cx (by decide) rfl dX11_mend_6 ?_
  refine z_iload cx rfl dX11_mend_8 ?_
  refine z_if_lt (tgt := 37) cx (by decide) dX11_mend_10 (fun c4 => ?_) (fun c4 => ?_)
  · have h := g_t c4 h
    refine z_iconst (v := (-1)) cx (by decide +kernel) dX11_mend_37 ?_
    obtain ⟨rfl, rfl⟩ := g_some h
    exact z_ireturn cx ce rfl ⟨rfl, rfl⟩ dX11_mend_38
  · have h := g_f c4 h
    refine z_iload_n cx rfl rfl dX11_mend_13 ?_
    refine z_i2l cx dX11_mend_14 ?_
    refine z_lconst (v := 0) cx (by decide +kernel) dX11_mend_15 ?_
    refine z_iload_n cx rfl rfl dX11_mend_16 ?_
    obtain ⟨v5, S6, e7, h⟩ := g_bd_ex h
    refine q_csi (As := [.int a1]) cx mo_X11_mostOf ms_X11_mostOf tb_287 (by decide) rfl rfl (Nat.le_of_ble_eq_true rfl) dX11_mend_17 (c_X11_mostOf a1 _ e7) ?_
    refine z_i2l cx dX11_mend_20 ?_
    obtain ⟨v8, S9, e10, h⟩ := g_bd_ex h
    refine q_csi (As := [.long (Int32.toInt64 a2), .long 0, .long (Int32.toInt64 v5)]) cx mo_X11_within ms_X11_within tb_185 (by decide) rfl rfl (Nat.le_of_ble_eq_true rfl) dX11_mend_21 (c_X11_within (Int32.toInt64 a2) 0 (Int32.toInt64 v5) _ e10) ?_
    refine q_ifb_eq (tgt := 37) cx (by decide) dX11_mend_24 (fun c11 => ?_) (fun c11 => ?_)
    · have h := g_f (Bool.eq_false_iff.mp c11) h
      refine z_iconst (v := (-1)) cx (by decide +kernel) dX11_mend_37 ?_
      obtain ⟨rfl, rfl⟩ := g_some h
      exact z_ireturn cx ce rfl ⟨rfl, rfl⟩ dX11_mend_38
    · have h := g_t c11 h
      refine z_aload_n cx rfl rfl dX11_mend_27 ?_
      refine z_iload cx rfl dX11_mend_28 ?_
      refine z_iload_n cx rfl rfl dX11_mend_30 ?_
      obtain ⟨v12, S13, e14, h⟩ := g_bd_ex h
      refine q_cvi (As := [.int v1, .int a2]) cx mo_X11_becomes mv_X11_becomes z_cl11 rfl tb_290 (by decide) rfl (by decide) rfl rfl (Nat.le_of_ble_eq_true rfl) dX11_mend_31 (c_X11_becomes v1 a2 _ e14) ?_
      refine z_goto (tgt := 38) cx (by decide) dX11_mend_34 ?_
      obtain ⟨rfl, rfl⟩ := g_some h
      exact z_ireturn cx ce rfl ⟨rfl, rfl⟩ dX11_mend_38
theorem c_X11_mend {g : z_G} {n : Nat} (a0 : Int32) (a1 : Int32) (a2 : Int32) (S : z_Stt) {v : Int32} {S' : z_Stt} (h : f_X11_mend n a0 a1 a2 S = some (v, S')) : z_Ct g M_X11_mend 4 [.ref (z_ad g 48), .int a0, .int a1, .int a2] (hp g S) (z_P g (some (.int v)) S') :=
  z_Ct.of (by decide +kernel) rfl (Nat.le_of_ble_eq_true rfl) (fun K cx ce => q_weak (L' := [some (.ref (z_ad g 48)), some (.int a0), some (.int a1), some (.int a2), none]) (z_wk_s (z_wk_s (z_wk_s (z_wk_s (z_wk_e (z_wk_0)))))) (t_X11_mend n cx ce a0 a1 a2 S h))
abbrev M_X11_of : z_M := (RX11, yX11_of, cX11_of, 4, some .int)
theorem mo_X11_of : z_mo M_X11_of 2 := ⟨tb_310, tb_5, rfl, ⟨by decide +kernel, by decide +kernel⟩, by decide +kernel, by decide⟩
theorem mv_X11_of : z_mv M_X11_of := ⟨tb_308, tb_309⟩
def f_X11_of (a0 : Int32) (a1 : Int32) (S : z_Stt) : Option (Int32 × z_Stt) :=
  g_bd (f_X11_placeOf a0 a1 S) fun v1 S2 =>
  if v1 < 0 then
    if a1 = 10 then
      g_bd (f_X11_isThing (Int32.toInt64 a0) S2) fun v6 S7 =>
      if v6 = true then
        if ¬ (a0 < 0 ∨ 6 ≤ a0.toNatClampNeg) then
          some (S7.2.2.1 53 a0.toNatClampNeg, S7)
        else none
      else
        some ((-1), S7)
    else if a1 = 11 then
      if a0 = 0 then
        some (S2.1 4809, S2)
      else
        some ((-1), S2)
    else if a1 = 12 then
      if a0 = 0 then
        some (S2.1 4810, S2)
      else
        some ((-1), S2)
    else 
      some ((-1), S2)
  else
    if ¬ (v1 < 0 ∨ 75 ≤ v1.toNatClampNeg) then
      some (S2.2.2.1 49 v1.toNatClampNeg, S2)
    else none
set_option maxHeartbeats 4000000 in
set_option maxRecDepth 100000 in
theorem t_X11_of {g : z_G} {K : z_K} {v : Int32} {S' : z_Stt} (cx : z_C g M_X11_of 4 K) (ce : z_E' g M_X11_of (z_P g (some (.int v)) S') K) (a0 : Int32) (a1 : Int32) (S : z_Stt) (h : f_X11_of a0 a1 S = some (v, S')) : z_At g M_X11_of K 0 [some (.ref (z_ad g 48)), some (.int a0), some (.int a1), none] [] (hp g S) := by
  unfold f_X11_of at h
  refine z_aload_n cx rfl rfl dX11_of_0 ?_
  refine z_iload_n cx rfl rfl dX11_of_1 ?_
  refine z_iload_n cx rfl rfl dX11_of_2 ?_
  obtain ⟨v1, S2, e3, h⟩ := g_bd_ex h
  refine q_cvi (As := [.int a0, .int a1]) cx mo_X11_placeOf mv_X11_placeOf z_cl11 rfl tb_269 (by decide) rfl (by decide) rfl rfl (Nat.le_of_ble_eq_true rfl) dX11_of_3 (c_X11_placeOf a0 a1 _ e3) ?_
  refine z_istore_n (L' := [some (.ref (z_ad g 48)), some (.int a0), some (.int a1), some (.int v1)]) cx rfl (by decide) rfl dX11_of_6 ?_
  refine z_iload_n cx rfl rfl dX11_of_7 ?_
  refine z_if_lt (tgt := 18) cx (by decide) dX11_of_8 (fun c4 => ?_) (fun c4 => ?_)
  · have h := g_t c4 h
    refine z_iload_n cx rfl rfl dX11_of_18 ?_
    by_cases c5 : a1 = 10
    · have h := g_t c5 h
      refine z_tableIn (tgt := 44) (off := 25) cx (by rw [c5]; decide +kernel) (by rw [c5]; decide +kernel) (by rw [c5]; decide +kernel) (by decide) dX11_of_19 ?_
      refine z_aload_n cx rfl rfl dX11_of_44 ?_
      refine z_iload_n cx rfl rfl dX11_of_45 ?_
      refine z_i2l cx dX11_of_46 ?_
      obtain ⟨v6, S7, e8, h⟩ := g_bd_ex h
      refine q_cvi (As := [.long (Int32.toInt64 a0)]) cx mo_X11_isThing mv_X11_isThing z_cl11 rfl tb_274 (by decide) rfl (by decide) rfl rfl (Nat.le_of_ble_eq_true rfl) dX11_of_47 (c_X11_isThing (Int32.toInt64 a0) _ e8) ?_
      refine q_ifb_eq (tgt := 62) cx (by decide) dX11_of_50 (fun c9 => ?_) (fun c9 => ?_)
      · have h := g_f (Bool.eq_false_iff.mp c9) h
        refine z_iconst (v := (-1)) cx (by decide +kernel) dX11_of_62 ?_
        obtain ⟨rfl, rfl⟩ := g_some h
        exact z_ireturn cx ce rfl ⟨rfl, rfl⟩ dX11_of_63
      · have h := g_t c9 h
        refine z_aload_n cx rfl rfl dX11_of_53 ?_
        refine q_getF (k := 48) (n := 53) (r := 5) cx z_cl11 (j := 7) (by decide) tb_145 rfl (by decide) rfl rfl rfl dX11_of_54 ?_
        refine z_iload_n cx rfl rfl dX11_of_57 ?_
        obtain ⟨c10, h⟩ := g_if h
        refine q_iald cx (by decide) rfl c10 dX11_of_58 ?_
        refine z_goto (tgt := 63) cx (by decide) dX11_of_59 ?_
        obtain ⟨rfl, rfl⟩ := g_some h
        exact z_ireturn cx ce rfl ⟨rfl, rfl⟩ dX11_of_63
    have h := g_f c5 h
    by_cases c11 : a1 = 11
    · have h := g_t c11 h
      refine z_tableIn (tgt := 64) (off := 45) cx (by rw [c11]; decide +kernel) (by rw [c11]; decide +kernel) (by rw [c11]; decide +kernel) (by decide) dX11_of_19 ?_
      refine z_iload_n cx rfl rfl dX11_of_64 ?_
      refine z_if_ne (tgt := 75) cx (by decide) dX11_of_65 (fun c12 => ?_) (fun c12 => ?_)
      · have h := g_f c12 h
        refine z_iconst (v := (-1)) cx (by decide +kernel) dX11_of_75 ?_
        obtain ⟨rfl, rfl⟩ := g_some h
        exact z_ireturn cx ce rfl ⟨rfl, rfl⟩ dX11_of_76
      · have h := g_t c12 h
        refine z_aload_n cx rfl rfl dX11_of_68 ?_
        refine q_getI (k := 48) (n := 4809) cx z_cl11 (j := 9) (by decide) tb_311 rfl (by decide) rfl rfl rfl dX11_of_69 ?_
        refine z_goto (tgt := 76) cx (by decide) dX11_of_72 ?_
        obtain ⟨rfl, rfl⟩ := g_some h
        exact z_ireturn cx ce rfl ⟨rfl, rfl⟩ dX11_of_76
    have h := g_f c11 h
    by_cases c13 : a1 = 12
    · have h := g_t c13 h
      refine z_tableIn (tgt := 77) (off := 58) cx (by rw [c13]; decide +kernel) (by rw [c13]; decide +kernel) (by rw [c13]; decide +kernel) (by decide) dX11_of_19 ?_
      refine z_iload_n cx rfl rfl dX11_of_77 ?_
      refine z_if_ne (tgt := 88) cx (by decide) dX11_of_78 (fun c14 => ?_) (fun c14 => ?_)
      · have h := g_f c14 h
        refine z_iconst (v := (-1)) cx (by decide +kernel) dX11_of_88 ?_
        obtain ⟨rfl, rfl⟩ := g_some h
        exact z_ireturn cx ce rfl ⟨rfl, rfl⟩ dX11_of_89
      · have h := g_t c14 h
        refine z_aload_n cx rfl rfl dX11_of_81 ?_
        refine q_getI (k := 48) (n := 4810) cx z_cl11 (j := 10) (by decide) tb_312 rfl (by decide) rfl rfl rfl dX11_of_82 ?_
        refine z_goto (tgt := 89) cx (by decide) dX11_of_85 ?_
        obtain ⟨rfl, rfl⟩ := g_some h
        exact z_ireturn cx ce rfl ⟨rfl, rfl⟩ dX11_of_89
    have h := g_f c13 h
    refine q_tableD (tgt := 90) (lo := 10) (hi := 12) cx [10, 11, 12] (by decide +kernel) (by intro a ha; simp only [List.mem_cons, List.not_mem_nil, or_false] at ha; rcases ha with rfl | rfl | rfl <;> assumption) (by decide) dX11_of_19 ?_
    refine z_iconst (v := (-1)) cx (by decide +kernel) dX11_of_90 ?_
    obtain ⟨rfl, rfl⟩ := g_some h
    exact z_ireturn cx ce rfl ⟨rfl, rfl⟩ dX11_of_91
  · have h := g_f c4 h
    refine z_aload_n cx rfl rfl dX11_of_11 ?_
    refine q_getF (k := 48) (n := 49) (r := 1) cx z_cl11 (j := 0) (by decide) tb_141 rfl (by decide) rfl rfl rfl dX11_of_12 ?_
    refine z_iload_n cx rfl rfl dX11_of_15 ?_
    obtain ⟨c15, h⟩ := g_if h
    refine q_iald cx (by decide) rfl c15 dX11_of_16 ?_
    obtain ⟨rfl, rfl⟩ := g_some h
    exact z_ireturn cx ce rfl ⟨rfl, rfl⟩ dX11_of_17
theorem c_X11_of {g : z_G} (a0 : Int32) (a1 : Int32) (S : z_Stt) {v : Int32} {S' : z_Stt} (h : f_X11_of a0 a1 S = some (v, S')) : z_Ct g M_X11_of 4 [.ref (z_ad g 48), .int a0, .int a1] (hp g S) (z_P g (some (.int v)) S') :=
  z_Ct.of (by decide +kernel) rfl (Nat.le_of_ble_eq_true rfl) (fun K cx ce => q_weak (L' := [some (.ref (z_ad g 48)), some (.int a0), some (.int a1), none]) (z_wk_s (z_wk_s (z_wk_s (z_wk_e (z_wk_0))))) (t_X11_of cx ce a0 a1 S h))
abbrev M_X11_traceOf : z_M := (RX11, yX11_traceOf, cX11_traceOf, 2, some .int)
theorem mo_X11_traceOf : z_mo M_X11_traceOf 1 := ⟨tb_507, tb_5, rfl, ⟨by decide +kernel, by decide +kernel⟩, by decide +kernel, by decide⟩
theorem mv_X11_traceOf : z_mv M_X11_traceOf := ⟨tb_505, tb_506⟩
def f_X11_traceOf (a0 : Int32) (S : z_Stt) : Option (Int32 × z_Stt) :=
  g_bd (f_X11_numberOf a0 4 S) fun v1 S2 =>
  if v1 = 1 then
    some (12, S2)
  else
    g_bd (f_X11_numberOf a0 1 S2) fun v5 S6 =>
    some (v5, S6)
set_option maxHeartbeats 4000000 in
set_option maxRecDepth 100000 in
theorem t_X11_traceOf {g : z_G} {K : z_K} {v : Int32} {S' : z_Stt} (cx : z_C g M_X11_traceOf 1 K) (ce : z_E' g M_X11_traceOf (z_P g (some (.int v)) S') K) (a0 : Int32) (S : z_Stt) (h : f_X11_traceOf a0 S = some (v, S')) : z_At g M_X11_traceOf K 0 [some (.ref (z_ad g 48)), some (.int a0)] [] (hp g S) := by
  unfold f_X11_traceOf at h
  refine z_aload_n cx rfl rfl dX11_traceOf_0 ?_
  refine z_iload_n cx rfl rfl dX11_traceOf_1 ?_
  refine z_iconst (v := 4) cx (by decide +kernel) dX11_traceOf_2 ?_
  obtain ⟨v1, S2, e3, h⟩ := g_bd_ex h
  refine q_cvi (As := [.int a0, .int 4]) cx mo_X11_numberOf mv_X11_numberOf z_cl11 rfl tb_496 (by decide) rfl (by decide) rfl rfl (Nat.le_of_ble_eq_true rfl) dX11_traceOf_3 (c_X11_numberOf a0 4 _ e3) ?_
  refine z_iconst (v := 1) cx (by decide +kernel) dX11_traceOf_6 ?_
  refine z_icmp_ne (tgt := 15) cx (by decide) dX11_traceOf_7 (fun c4 => ?_) (fun c4 => ?_)
  · have h := g_f c4 h
    refine z_aload_n cx rfl rfl dX11_traceOf_15 ?_
    refine z_iload_n cx rfl rfl dX11_traceOf_16 ?_
    refine z_iconst (v := 1) cx (by decide +kernel) dX11_traceOf_17 ?_
    obtain ⟨v5, S6, e7, h⟩ := g_bd_ex h
    refine q_cvi (As := [.int a0, .int 1]) cx mo_X11_numberOf mv_X11_numberOf z_cl11 rfl tb_496 (by decide) rfl (by decide) rfl rfl (Nat.le_of_ble_eq_true rfl) dX11_traceOf_18 (c_X11_numberOf a0 1 _ e7) ?_
    obtain ⟨rfl, rfl⟩ := g_some h
    exact z_ireturn cx ce rfl ⟨rfl, rfl⟩ dX11_traceOf_21
  · have h := g_t c4 h
    refine z_bipush (v := 12) cx (by decide +kernel) dX11_traceOf_10 ?_
    refine z_goto (tgt := 21) cx (by decide) dX11_traceOf_12 ?_
    obtain ⟨rfl, rfl⟩ := g_some h
    exact z_ireturn cx ce rfl ⟨rfl, rfl⟩ dX11_traceOf_21
theorem c_X11_traceOf {g : z_G} (a0 : Int32) (S : z_Stt) {v : Int32} {S' : z_Stt} (h : f_X11_traceOf a0 S = some (v, S')) : z_Ct g M_X11_traceOf 1 [.ref (z_ad g 48), .int a0] (hp g S) (z_P g (some (.int v)) S') :=
  z_Ct.of (by decide +kernel) rfl (Nat.le_of_ble_eq_true rfl) (fun K cx ce => q_weak (L' := [some (.ref (z_ad g 48)), some (.int a0)]) (z_wk_s (z_wk_s (z_wk_0))) (t_X11_traceOf cx ce a0 S h))
abbrev M_X11_staleOf : z_M := (RX11, yX11_staleOf, cX11_staleOf, 2, some .int)
theorem mo_X11_staleOf : z_mo M_X11_staleOf 1 := ⟨tb_503, tb_5, rfl, ⟨by decide +kernel, by decide +kernel⟩, by decide +kernel, by decide⟩
theorem mv_X11_staleOf : z_mv M_X11_staleOf := ⟨tb_501, tb_502⟩
def f_X11_staleOf (a0 : Int32) (S : z_Stt) : Option (Int32 × z_Stt) :=
  g_bd (f_X11_numberOf a0 4 S) fun v1 S2 =>
  if v1 = 1 then
    if ¬ (a0 < 0 ∨ 6 ≤ a0.toNatClampNeg) then
      some (S2.2.2.1 53 a0.toNatClampNeg, S2)
    else none
  else
    g_bd (f_X11_numberOf a0 2 S2) fun v5 S6 =>
    some (v5, S6)
set_option maxHeartbeats 4000000 in
set_option maxRecDepth 100000 in
theorem t_X11_staleOf {g : z_G} {K : z_K} {v : Int32} {S' : z_Stt} (cx : z_C g M_X11_staleOf 1 K) (ce : z_E' g M_X11_staleOf (z_P g (some (.int v)) S') K) (a0 : Int32) (S : z_Stt) (h : f_X11_staleOf a0 S = some (v, S')) : z_At g M_X11_staleOf K 0 [some (.ref (z_ad g 48)), some (.int a0)] [] (hp g S) := by
  unfold f_X11_staleOf at h
  refine z_aload_n cx rfl rfl dX11_staleOf_0 ?_
  refine z_iload_n cx rfl rfl dX11_staleOf_1 ?_
  refine z_iconst (v := 4) cx (by decide +kernel) dX11_staleOf_2 ?_
  obtain ⟨v1, S2, e3, h⟩ := g_bd_ex h
  refine q_cvi (As := [.int a0, .int 4]) cx mo_X11_numberOf mv_X11_numberOf z_cl11 rfl tb_496 (by decide) rfl (by decide) rfl rfl (Nat.le_of_ble_eq_true rfl) dX11_staleOf_3 (c_X11_numberOf a0 4 _ e3) ?_
  refine z_iconst (v := 1) cx (by decide +kernel) dX11_staleOf_6 ?_
  refine z_icmp_ne (tgt := 19) cx (by decide) dX11_staleOf_7 (fun c4 => ?_) (fun c4 => ?_)
  · have h := g_f c4 h
    refine z_aload_n cx rfl rfl dX11_staleOf_19 ?_
    refine z_iload_n cx rfl rfl dX11_staleOf_20 ?_
    refine z_iconst (v := 2) cx (by decide +kernel) dX11_staleOf_21 ?_
    obtain ⟨v5, S6, e7, h⟩ := g_bd_ex h
    refine q_cvi (As := [.int a0, .int 2]) cx mo_X11_numberOf mv_X11_numberOf z_cl11 rfl tb_496 (by decide) rfl (by decide) rfl rfl (Nat.le_of_ble_eq_true rfl) dX11_staleOf_22 (c_X11_numberOf a0 2 _ e7) ?_
    obtain ⟨rfl, rfl⟩ := g_some h
    exact z_ireturn cx ce rfl ⟨rfl, rfl⟩ dX11_staleOf_25
  · have h := g_t c4 h
    refine z_aload_n cx rfl rfl dX11_staleOf_10 ?_
    refine q_getF (k := 48) (n := 53) (r := 5) cx z_cl11 (j := 7) (by decide) tb_145 rfl (by decide) rfl rfl rfl dX11_staleOf_11 ?_
    refine z_iload_n cx rfl rfl dX11_staleOf_14 ?_
    obtain ⟨c8, h⟩ := g_if h
    refine q_iald cx (by decide) rfl c8 dX11_staleOf_15 ?_
    refine z_goto (tgt := 25) cx (by decide) dX11_staleOf_16 ?_
    obtain ⟨rfl, rfl⟩ := g_some h
    exact z_ireturn cx ce rfl ⟨rfl, rfl⟩ dX11_staleOf_25
theorem c_X11_staleOf {g : z_G} (a0 : Int32) (S : z_Stt) {v : Int32} {S' : z_Stt} (h : f_X11_staleOf a0 S = some (v, S')) : z_Ct g M_X11_staleOf 1 [.ref (z_ad g 48), .int a0] (hp g S) (z_P g (some (.int v)) S') :=
  z_Ct.of (by decide +kernel) rfl (Nat.le_of_ble_eq_true rfl) (fun K cx ce => q_weak (L' := [some (.ref (z_ad g 48)), some (.int a0)]) (z_wk_s (z_wk_s (z_wk_0))) (t_X11_staleOf cx ce a0 S h))
abbrev M_X11_asksOpen : z_M := (RX11, yX11_asksOpen, cX11_asksOpen, 6, some .boolean)
theorem mo_X11_asksOpen : z_mo M_X11_asksOpen 2 := ⟨tb_495, tb_5, rfl, ⟨by decide +kernel, by decide +kernel⟩, by decide +kernel, by decide⟩
theorem mv_X11_asksOpen : z_mv M_X11_asksOpen := ⟨tb_493, tb_494⟩
def f_X11_asksOpen_69 (x3 : Int32) (x4 : Int32) (y0 : Int32) (S : z_Stt) : Option (Bool × z_Stt) :=
  g_let (sJ S 4811 ((Int32.toInt64 x3) * (Int32.toInt64 x4))) fun S1 =>
  g_let (sJ S1 4812 ((S1.2.1 4811) + ((Int32.toInt64 (144 - x3)) * (Int32.toInt64 y0)))) fun S3 =>
  if lg_cmp (S3.2.1 4812) 0 ≤ 0 then
    some (false, S3)
  else
    some (true, S3)
set_option maxHeartbeats 4000000 in
set_option maxRecDepth 100000 in
theorem t_X11_asksOpen_69 {g : z_G} {K : z_K} {v : Bool} {S' : z_Stt} (cx : z_C g M_X11_asksOpen 2 K) (ce : z_E' g M_X11_asksOpen (z_P g (some (.int (bI v))) S') K) (x3 : Int32) (x4 : Int32) (y0 : Int32) (S : z_Stt) (h : f_X11_asksOpen_69 x3 x4 y0 S = some (v, S')) : z_At g M_X11_asksOpen K 69 [some (.ref (z_ad g 48)), none, none, some (.int x3), some (.int x4), none] [.int y0] (hp g S) := by
  unfold f_X11_asksOpen_69 at h
  refine z_istore (L' := [some (.ref (z_ad g 48)), none, none, some (.int x3), some (.int x4), some (.int y0)]) cx (by decide) rfl dX11_asksOpen_69 ?_
  refine z_aload_n cx rfl rfl dX11_asksOpen_71 ?_
  refine z_iload_n cx rfl rfl dX11_asksOpen_72 ?_
  refine z_i2l cx dX11_asksOpen_73 ?_
  refine z_iload cx rfl dX11_asksOpen_74 ?_
  refine z_i2l cx dX11_asksOpen_76 ?_
  refine z_lmul cx dX11_asksOpen_77 ?_
  refine q_putJ (k := 48) (n := 4811) cx z_cl11 (j := 11) (by decide) tb_486 rfl rfl rfl (by decide) rfl rfl rfl (by decide) (by decide) dX11_asksOpen_78 ?_
  obtain ⟨S1, e2, h⟩ := g_let_ex h
  rw [← e2]
  refine z_aload_n cx rfl rfl dX11_asksOpen_81 ?_
  refine z_aload_n cx rfl rfl dX11_asksOpen_82 ?_
  refine q_getJ (k := 48) (n := 4811) cx z_cl11 (j := 11) (by decide) tb_486 rfl (by decide) rfl rfl rfl dX11_asksOpen_83 ?_
  refine z_sipush (v := 144) cx (by decide +kernel) dX11_asksOpen_86 ?_
  refine z_iload_n cx rfl rfl dX11_asksOpen_89 ?_
  refine z_isub cx dX11_asksOpen_90 ?_
  refine z_i2l cx dX11_asksOpen_91 ?_
  refine z_iload cx rfl dX11_asksOpen_92 ?_
  refine z_i2l cx dX11_asksOpen_94 ?_
  refine z_lmul cx dX11_asksOpen_95 ?_
  refine z_ladd cx dX11_asksOpen_96 ?_
  refine q_putJ (k := 48) (n := 4812) cx z_cl11 (j := 12) (by decide) tb_487 rfl rfl rfl (by decide) rfl rfl rfl (by decide) (by decide) dX11_asksOpen_97 ?_
  obtain ⟨S3, e4, h⟩ := g_let_ex h
  rw [← e4]
  refine z_aload_n cx rfl rfl dX11_asksOpen_100 ?_
  refine q_getJ (k := 48) (n := 4812) cx z_cl11 (j := 12) (by decide) tb_487 rfl (by decide) rfl rfl rfl dX11_asksOpen_101 ?_
  refine z_lconst (v := 0) cx (by decide +kernel) dX11_asksOpen_104 ?_
  refine z_lcmp cx dX11_asksOpen_105 ?_
  refine z_if_le (tgt := 113) cx (by decide) dX11_asksOpen_106 (fun c5 => ?_) (fun c5 => ?_)
  · have h := g_t c5 h
    refine z_iconst (v := 0) cx (by decide +kernel) dX11_asksOpen_113 ?_
    obtain ⟨rfl, rfl⟩ := g_some h
    exact z_zreturn cx ce rfl (by decide +kernel) ⟨rfl, rfl⟩ dX11_asksOpen_114
  · have h := g_f c5 h
    refine z_iconst (v := 1) cx (by decide +kernel) dX11_asksOpen_109 ?_
    refine z_goto (tgt := 114) cx (by decide) dX11_asksOpen_110 ?_
    obtain ⟨rfl, rfl⟩ := g_some h
    exact z_zreturn cx ce rfl (by decide +kernel) ⟨rfl, rfl⟩ dX11_asksOpen_114
def f_X11_asksOpen_37 (x1 : Int32) (x2 : Int32) (x3 : Int32) (y0 : Int32) (S : z_Stt) : Option (Bool × z_Stt) :=
  if x2 = 2 then
    f_X11_asksOpen_69 x3 y0 1 S
  else
    if x2 = 1 then
      g_bd (f_X11_traceOf x1 S) fun v6 S7 =>
      f_X11_asksOpen_69 x3 y0 v6 S7
    else
      g_bd (f_X11_traceOf x1 S) fun v3 S4 =>
      f_X11_asksOpen_69 x3 y0 (12 - v3) S4
set_option maxHeartbeats 4000000 in
set_option maxRecDepth 100000 in
theorem t_X11_asksOpen_37 {g : z_G} {K : z_K} {v : Bool} {S' : z_Stt} (cx : z_C g M_X11_asksOpen 2 K) (ce : z_E' g M_X11_asksOpen (z_P g (some (.int (bI v))) S') K) (x1 : Int32) (x2 : Int32) (x3 : Int32) (y0 : Int32) (S : z_Stt) (h : f_X11_asksOpen_37 x1 x2 x3 y0 S = some (v, S')) : z_At g M_X11_asksOpen K 37 [some (.ref (z_ad g 48)), some (.int x1), some (.int x2), some (.int x3), none, none] [.int y0] (hp g S) := by
  unfold f_X11_asksOpen_37 at h
  refine z_istore (L' := [some (.ref (z_ad g 48)), some (.int x1), some (.int x2), some (.int x3), some (.int y0), none]) cx (by decide) rfl dX11_asksOpen_37 ?_
  refine z_iload_n cx rfl rfl dX11_asksOpen_39 ?_
  refine z_iconst (v := 2) cx (by decide +kernel) dX11_asksOpen_40 ?_
  refine z_icmp_ne (tgt := 48) cx (by decide) dX11_asksOpen_41 (fun c1 => ?_) (fun c1 => ?_)
  · have h := g_f c1 h
    refine z_iload_n cx rfl rfl dX11_asksOpen_48 ?_
    refine z_iconst (v := 1) cx (by decide +kernel) dX11_asksOpen_49 ?_
    refine z_icmp_ne (tgt := 61) cx (by decide) dX11_asksOpen_50 (fun c2 => ?_) (fun c2 => ?_)
    · have h := g_f c2 h
      refine z_bipush (v := 12) cx (by decide +kernel) dX11_asksOpen_61 ?_
      refine z_aload_n cx rfl rfl dX11_asksOpen_63 ?_
      refine z_iload_n cx rfl rfl dX11_asksOpen_64 ?_
      obtain ⟨v3, S4, e5, h⟩ := g_bd_ex h
      refine q_cvi (As := [.int x1]) cx mo_X11_traceOf mv_X11_traceOf z_cl11 rfl tb_504 (by decide) rfl (by decide) rfl rfl (Nat.le_of_ble_eq_true rfl) dX11_asksOpen_65 (c_X11_traceOf x1 _ e5) ?_
      refine z_isub cx dX11_asksOpen_68 ?_
      exact q_weak (z_wk_s (z_wk_n (z_wk_n (z_wk_s (z_wk_s (z_wk_n (z_wk_0))))))) (t_X11_asksOpen_69 cx ce x3 y0 (12 - v3) S4 h)
    · have h := g_t c2 h
      refine z_aload_n cx rfl rfl dX11_asksOpen_53 ?_
      refine z_iload_n cx rfl rfl dX11_asksOpen_54 ?_
      obtain ⟨v6, S7, e8, h⟩ := g_bd_ex h
      refine q_cvi (As := [.int x1]) cx mo_X11_traceOf mv_X11_traceOf z_cl11 rfl tb_504 (by decide) rfl (by decide) rfl rfl (Nat.le_of_ble_eq_true rfl) dX11_asksOpen_55 (c_X11_traceOf x1 _ e8) ?_
      refine z_goto (tgt := 69) cx (by decide) dX11_asksOpen_58 ?_
      exact q_weak (z_wk_s (z_wk_n (z_wk_n (z_wk_s (z_wk_s (z_wk_n (z_wk_0))))))) (t_X11_asksOpen_69 cx ce x3 y0 v6 S7 h)
  · have h := g_t c1 h
    refine z_iconst (v := 1) cx (by decide +kernel) dX11_asksOpen_44 ?_
    refine z_goto (tgt := 69) cx (by decide) dX11_asksOpen_45 ?_
    exact q_weak (z_wk_s (z_wk_n (z_wk_n (z_wk_s (z_wk_s (z_wk_n (z_wk_0))))))) (t_X11_asksOpen_69 cx ce x3 y0 1 S h)
def f_X11_asksOpen (a0 : Int32) (a1 : Int32) (S : z_Stt) : Option (Bool × z_Stt) :=
  g_bd (f_X11_numberOf a0 0 S) fun v1 S2 =>
  if a1 = 2 then
    f_X11_asksOpen_37 a0 a1 v1 1 S2
  else
    if a1 = 1 then
      g_bd (f_X11_staleOf a0 S2) fun v9 S10 =>
      f_X11_asksOpen_37 a0 a1 v1 v9 S10
    else
      g_bd (f_X11_staleOf a0 S2) fun v6 S7 =>
      f_X11_asksOpen_37 a0 a1 v1 (12 - v6) S7
set_option maxHeartbeats 4000000 in
set_option maxRecDepth 100000 in
theorem t_X11_asksOpen {g : z_G} {K : z_K} {v : Bool} {S' : z_Stt} (cx : z_C g M_X11_asksOpen 2 K) (ce : z_E' g M_X11_asksOpen (z_P g (some (.int (bI v))) S') K) (a0 : Int32) (a1 : Int32) (S : z_Stt) (h : f_X11_asksOpen a0 a1 S = some (v, S')) : z_At g M_X11_asksOpen K 0 [some (.ref (z_ad g 48)), some (.int a0), some (.int a1), none, none, none] [] (hp g S) := by
  unfold f_X11_asksOpen at h
  refine z_aload_n cx rfl rfl dX11_asksOpen_0 ?_
  refine z_iload_n cx rfl rfl dX11_asksOpen_1 ?_
  refine z_iconst (v := 0) cx (by decide +kernel) dX11_asksOpen_2 ?_
  obtain ⟨v1, S2, e3, h⟩ := g_bd_ex h
  refine q_cvi (As := [.int a0, .int 0]) cx mo_X11_numberOf mv_X11_numberOf z_cl11 rfl tb_496 (by decide) rfl (by decide) rfl rfl (Nat.le_of_ble_eq_true rfl) dX11_asksOpen_3 (c_X11_numberOf a0 0 _ e3) ?_
  refine z_istore_n (L' := [some (.ref (z_ad g 48)), some (.int a0), some (.int a1), some (.int v1), none, none]) cx rfl (by decide) rfl dX11_asksOpen_6 ?_
  refine z_iload_n cx rfl rfl dX11_asksOpen_7 ?_
  refine z_iconst (v := 2) cx (by decide +kernel) dX11_asksOpen_8 ?_
  refine z_icmp_ne (tgt := 16) cx (by decide) dX11_asksOpen_9 (fun c4 => ?_) (fun c4 => ?_)
  · have h := g_f c4 h
    refine z_iload_n cx rfl rfl dX11_asksOpen_16 ?_
    refine z_iconst (v := 1) cx (by decide +kernel) dX11_asksOpen_17 ?_
    refine z_icmp_ne (tgt := 29) cx (by decide) dX11_asksOpen_18 (fun c5 => ?_) (fun c5 => ?_)
    · have h := g_f c5 h
      refine z_bipush (v := 12) cx (by decide +kernel) dX11_asksOpen_29 ?_
      refine z_aload_n cx rfl rfl dX11_asksOpen_31 ?_
      refine z_iload_n cx rfl rfl dX11_asksOpen_32 ?_
      obtain ⟨v6, S7, e8, h⟩ := g_bd_ex h
      refine q_cvi (As := [.int a0]) cx mo_X11_staleOf mv_X11_staleOf z_cl11 rfl tb_500 (by decide) rfl (by decide) rfl rfl (Nat.le_of_ble_eq_true rfl) dX11_asksOpen_33 (c_X11_staleOf a0 _ e8) ?_
      refine z_isub cx dX11_asksOpen_36 ?_
      exact q_weak (z_wk_s (z_wk_s (z_wk_s (z_wk_s (z_wk_n (z_wk_n (z_wk_0))))))) (t_X11_asksOpen_37 cx ce a0 a1 v1 (12 - v6) S7 h)
    · have h := g_t c5 h
      refine z_aload_n cx rfl rfl dX11_asksOpen_21 ?_
      refine z_iload_n cx rfl rfl dX11_asksOpen_22 ?_
      obtain ⟨v9, S10, e11, h⟩ := g_bd_ex h
      refine q_cvi (As := [.int a0]) cx mo_X11_staleOf mv_X11_staleOf z_cl11 rfl tb_500 (by decide) rfl (by decide) rfl rfl (Nat.le_of_ble_eq_true rfl) dX11_asksOpen_23 (c_X11_staleOf a0 _ e11) ?_
      refine z_goto (tgt := 37) cx (by decide) dX11_asksOpen_26 ?_
      exact q_weak (z_wk_s (z_wk_s (z_wk_s (z_wk_s (z_wk_n (z_wk_n (z_wk_0))))))) (t_X11_asksOpen_37 cx ce a0 a1 v1 v9 S10 h)
  · have h := g_t c4 h
    refine z_iconst (v := 1) cx (by decide +kernel) dX11_asksOpen_12 ?_
    refine z_goto (tgt := 37) cx (by decide) dX11_asksOpen_13 ?_
    exact q_weak (z_wk_s (z_wk_s (z_wk_s (z_wk_s (z_wk_n (z_wk_n (z_wk_0))))))) (t_X11_asksOpen_37 cx ce a0 a1 v1 1 S2 h)
theorem c_X11_asksOpen {g : z_G} (a0 : Int32) (a1 : Int32) (S : z_Stt) {v : Bool} {S' : z_Stt} (h : f_X11_asksOpen a0 a1 S = some (v, S')) : z_Ct g M_X11_asksOpen 2 [.ref (z_ad g 48), .int a0, .int a1] (hp g S) (z_P g (some (.int (bI v))) S') :=
  z_Ct.of (by decide +kernel) rfl (Nat.le_of_ble_eq_true rfl) (fun K cx ce => q_weak (L' := [some (.ref (z_ad g 48)), some (.int a0), some (.int a1), none, none, none]) (z_wk_s (z_wk_s (z_wk_s (z_wk_e (z_wk_e (z_wk_e (z_wk_0))))))) (t_X11_asksOpen cx ce a0 a1 S h))
abbrev M_X11_commonOf : z_M := (RX11, yX11_commonOf, cX11_commonOf, 10, some .long)
theorem mo_X11_commonOf : z_mo M_X11_commonOf 2 := ⟨tb_513, tb_5, rfl, ⟨by decide +kernel, by decide +kernel⟩, by decide +kernel, by decide⟩
theorem ms_X11_commonOf : z_ms M_X11_commonOf := tb_512
def f_X11_commonOf_17 (n : Nat) : Nat → Int64 → Int64 → z_Stt → Option (Int64 × z_Stt)
  | 0, _, _, _ => none
  | m + 1, x4, x6, S =>
    if lg_cmp x6 0 = 0 then
      some (x4, S)
    else
      if ¬ x6 = 0 then
        f_X11_commonOf_17 n m x6 (x4 % x6) S
      else none
set_option maxHeartbeats 4000000 in
set_option maxRecDepth 100000 in
theorem t_X11_commonOf_17 {g : z_G} {K : z_K} (n : Nat) {v : Int64} {S' : z_Stt} (cx : z_C g M_X11_commonOf 0 K) (ce : z_E' g M_X11_commonOf (z_P g (some (.long v)) S') K) : ∀ (m : Nat) (x4 : Int64) (x6 : Int64) (S : z_Stt) (h : f_X11_commonOf_17 n m x4 x6 S = some (v, S')), z_At g M_X11_commonOf K 17 [none, none, none, none, some (.long x4), none, some (.long x6), none, none, none] [] (hp g S) := by
  intro m
  induction m with
  | zero => intro x4 x6 S h; simp [f_X11_commonOf_17] at h
  | succ m ih =>
    intro x4 x6 S h
    rw [f_X11_commonOf_17] at h
    refine z_lload cx rfl dX11_commonOf_17 ?_
    refine z_lconst (v := 0) cx (by decide +kernel) dX11_commonOf_19 ?_
    refine z_lcmp cx dX11_commonOf_20 ?_
    refine z_if_eq (tgt := 42) cx (by decide) dX11_commonOf_21 (fun c1 => ?_) (fun c1 => ?_)
    · have h := g_t c1 h
      refine z_lload cx rfl dX11_commonOf_42 ?_
      obtain ⟨rfl, rfl⟩ := g_some h
      exact z_lreturn cx ce rfl ⟨rfl, rfl⟩ dX11_commonOf_44
    · have h := g_f c1 h
      refine z_lload cx rfl dX11_commonOf_24 ?_
      refine z_lload cx rfl dX11_commonOf_26 ?_
      obtain ⟨c2, h⟩ := g_if h
      refine z_lrem cx c2 dX11_commonOf_28 ?_
      refine z_lstore (L' := [none, none, none, none, some (.long x4), none, some (.long x6), none, some (.long (x4 % x6)), none]) cx (by decide) rfl dX11_commonOf_29 ?_
      refine z_lload cx rfl dX11_commonOf_31 ?_
      refine z_lstore (L' := [none, none, none, none, some (.long x6), none, some (.long x6), none, some (.long (x4 % x6)), none]) cx (by decide) rfl dX11_commonOf_33 ?_
      refine z_lload cx rfl dX11_commonOf_35 ?_
      refine z_lstore (L' := [none, none, none, none, some (.long x6), none, some (.long (x4 % x6)), none, some (.long (x4 % x6)), none]) cx (by decide) rfl dX11_commonOf_37 ?_
      refine z_goto (tgt := 17) cx (by decide) dX11_commonOf_39 ?_
      exact q_weak (z_wk_n (z_wk_n (z_wk_n (z_wk_n (z_wk_s (z_wk_n (z_wk_s (z_wk_n (z_wk_n (z_wk_n (z_wk_0))))))))))) (ih x6 (x4 % x6) S h)
def f_X11_commonOf_12 (n : Nat) (x2 : Int64) (y0 : Int64) (S : z_Stt) : Option (Int64 × z_Stt) :=
  f_X11_commonOf_17 n n y0 x2 S
set_option maxHeartbeats 4000000 in
set_option maxRecDepth 100000 in
theorem t_X11_commonOf_12 {g : z_G} {K : z_K} (n : Nat) {v : Int64} {S' : z_Stt} (cx : z_C g M_X11_commonOf 0 K) (ce : z_E' g M_X11_commonOf (z_P g (some (.long v)) S') K) (x2 : Int64) (y0 : Int64) (S : z_Stt) (h : f_X11_commonOf_12 n x2 y0 S = some (v, S')) : z_At g M_X11_commonOf K 12 [none, none, some (.long x2), none, none, none, none, none, none, none] [.long y0] (hp g S) := by
  unfold f_X11_commonOf_12 at h
  refine z_lstore (L' := [none, none, some (.long x2), none, some (.long y0), none, none, none, none, none]) cx (by decide) rfl dX11_commonOf_12 ?_
  refine z_lload_n cx rfl rfl dX11_commonOf_14 ?_
  refine z_lstore (L' := [none, none, some (.long x2), none, some (.long y0), none, some (.long x2), none, none, none]) cx (by decide) rfl dX11_commonOf_15 ?_
  exact q_weak (z_wk_n (z_wk_n (z_wk_n (z_wk_n (z_wk_s (z_wk_n (z_wk_s (z_wk_n (z_wk_n (z_wk_n (z_wk_0))))))))))) (t_X11_commonOf_17 n cx ce n y0 x2 S h)
def f_X11_commonOf (n : Nat) (a0 : Int64) (a1 : Int64) (S : z_Stt) : Option (Int64 × z_Stt) :=
  if 0 ≤ lg_cmp a0 0 then
    f_X11_commonOf_12 n a1 a0 S
  else
    f_X11_commonOf_12 n a1 (-a0) S
set_option maxHeartbeats 4000000 in
set_option maxRecDepth 100000 in
theorem t_X11_commonOf {g : z_G} {K : z_K} (n : Nat) {v : Int64} {S' : z_Stt} (cx : z_C g M_X11_commonOf 0 K) (ce : z_E' g M_X11_commonOf (z_P g (some (.long v)) S') K) (a0 : Int64) (a1 : Int64) (S : z_Stt) (h : f_X11_commonOf n a0 a1 S = some (v, S')) : z_At g M_X11_commonOf K 0 [some (.long a0), none, some (.long a1), none, none, none, none, none, none, none] [] (hp g S) := by
  unfold f_X11_commonOf at h
  refine z_lload_n cx rfl rfl dX11_commonOf_0 ?_
  refine z_lconst (v := 0) cx (by decide +kernel) dX11_commonOf_1 ?_
  refine z_lcmp cx dX11_commonOf_2 ?_
  refine z_if_ge (tgt := 11) cx (by decide) dX11_commonOf_3 (fun c1 => ?_) (fun c1 => ?_)
  · have h := g_t c1 h
    refine z_lload_n cx rfl rfl dX11_commonOf_11 ?_
    exact q_weak (z_wk_n (z_wk_n (z_wk_s (z_wk_n (z_wk_n (z_wk_n (z_wk_n (z_wk_n (z_wk_n (z_wk_n (z_wk_0))))))))))) (t_X11_commonOf_12 n cx ce a1 a0 S h)
  · have h := g_f c1 h
    refine z_lload_n cx rfl rfl dX11_commonOf_6 ?_
    refine z_lneg cx dX11_commonOf_7 ?_
    refine z_goto (tgt := 12) cx (by decide) dX11_commonOf_8 ?_
    exact q_weak (z_wk_n (z_wk_n (z_wk_s (z_wk_n (z_wk_n (z_wk_n (z_wk_n (z_wk_n (z_wk_n (z_wk_n (z_wk_0))))))))))) (t_X11_commonOf_12 n cx ce a1 (-a0) S h)
theorem c_X11_commonOf {g : z_G} {n : Nat} (a0 : Int64) (a1 : Int64) (S : z_Stt) {v : Int64} {S' : z_Stt} (h : f_X11_commonOf n a0 a1 S = some (v, S')) : z_Ct g M_X11_commonOf 0 [.long a0, .long a1] (hp g S) (z_P g (some (.long v)) S') :=
  z_Ct.of (by decide +kernel) rfl (Nat.le_of_ble_eq_true rfl) (fun K cx ce => q_weak (L' := [some (.long a0), none, some (.long a1), none, none, none, none, none, none, none]) (z_wk_s (z_wk_n (z_wk_s (z_wk_n (z_wk_e (z_wk_e (z_wk_e (z_wk_e (z_wk_e (z_wk_e (z_wk_0))))))))))) (t_X11_commonOf n cx ce a0 a1 S h))
abbrev M_X11_partOf : z_M := (RX11, yX11_partOf, cX11_partOf, 7, some .long)
theorem mo_X11_partOf : z_mo M_X11_partOf 3 := ⟨tb_510, tb_5, rfl, ⟨by decide +kernel, by decide +kernel⟩, by decide +kernel, by decide⟩
theorem ms_X11_partOf : z_ms M_X11_partOf := tb_509
def f_X11_partOf (n : Nat) (a0 : Int64) (a1 : Int64) (a2 : Int32) (S : z_Stt) : Option (Int64 × z_Stt) :=
  if lg_cmp a0 0 = 0 then
    some (Int32.toInt64 a2, S)
  else
    g_bd (f_X11_commonOf n a0 a1 S) fun v2 S3 =>
    if a2 = 0 then
      if ¬ v2 = 0 then
        some (a0 / v2, S3)
      else none
    else
      if ¬ v2 = 0 then
        some (a1 / v2, S3)
      else none
set_option maxHeartbeats 4000000 in
set_option maxRecDepth 100000 in
theorem t_X11_partOf {g : z_G} {K : z_K} (n : Nat) {v : Int64} {S' : z_Stt} (cx : z_C g M_X11_partOf 1 K) (ce : z_E' g M_X11_partOf (z_P g (some (.long v)) S') K) (a0 : Int64) (a1 : Int64) (a2 : Int32) (S : z_Stt) (h : f_X11_partOf n a0 a1 a2 S = some (v, S')) : z_At g M_X11_partOf K 0 [some (.long a0), none, some (.long a1), none, some (.int a2), none, none] [] (hp g S) := by
  unfold f_X11_partOf at h
  refine z_lload_n cx rfl rfl dX11_partOf_0 ?_
  refine z_lconst (v := 0) cx (by decide +kernel) dX11_partOf_1 ?_
  refine z_lcmp cx dX11_partOf_2 ?_
  refine z_if_ne (tgt := 10) cx (by decide) dX11_partOf_3 (fun c1 => ?_) (fun c1 => ?_)
  · have h := g_f c1 h
    refine z_lload_n cx rfl rfl dX11_partOf_10 ?_
    refine z_lload_n cx rfl rfl dX11_partOf_11 ?_
    obtain ⟨v2, S3, e4, h⟩ := g_bd_ex h
    refine q_csl (As := [.long a0, .long a1]) cx mo_X11_commonOf ms_X11_commonOf tb_511 (by decide) rfl rfl (Nat.le_of_ble_eq_true rfl) dX11_partOf_12 (c_X11_commonOf a0 a1 _ e4) ?_
    refine z_lstore (L' := [some (.long a0), none, some (.long a1), none, some (.int a2), some (.long v2), none]) cx (by decide) rfl dX11_partOf_15 ?_
    refine z_iload cx rfl dX11_partOf_17 ?_
    refine z_if_ne (tgt := 29) cx (by decide) dX11_partOf_19 (fun c5 => ?_) (fun c5 => ?_)
    · have h := g_f c5 h
      refine z_lload_n cx rfl rfl dX11_partOf_29 ?_
      refine z_lload cx rfl dX11_partOf_30 ?_
      obtain ⟨c6, h⟩ := g_if h
      refine z_ldiv cx c6 dX11_partOf_32 ?_
      obtain ⟨rfl, rfl⟩ := g_some h
      exact z_lreturn cx ce rfl ⟨rfl, rfl⟩ dX11_partOf_33
    · have h := g_t c5 h
      refine z_lload_n cx rfl rfl dX11_partOf_22 ?_
      refine z_lload cx rfl dX11_partOf_23 ?_
      obtain ⟨c7, h⟩ := g_if h
      refine z_ldiv cx c7 dX11_partOf_25 ?_
      refine z_goto (tgt := 33) cx (by decide) dX11_partOf_26 ?_
      obtain ⟨rfl, rfl⟩ := g_some h
      exact z_lreturn cx ce rfl ⟨rfl, rfl⟩ dX11_partOf_33
  · have h := g_t c1 h
    refine z_iload cx rfl dX11_partOf_6 ?_
    refine z_i2l cx dX11_partOf_8 ?_
    obtain ⟨rfl, rfl⟩ := g_some h
    exact z_lreturn cx ce rfl ⟨rfl, rfl⟩ dX11_partOf_9
theorem c_X11_partOf {g : z_G} {n : Nat} (a0 : Int64) (a1 : Int64) (a2 : Int32) (S : z_Stt) {v : Int64} {S' : z_Stt} (h : f_X11_partOf n a0 a1 a2 S = some (v, S')) : z_Ct g M_X11_partOf 1 [.long a0, .long a1, .int a2] (hp g S) (z_P g (some (.long v)) S') :=
  z_Ct.of (by decide +kernel) rfl (Nat.le_of_ble_eq_true rfl) (fun K cx ce => q_weak (L' := [some (.long a0), none, some (.long a1), none, some (.int a2), none, none]) (z_wk_s (z_wk_n (z_wk_s (z_wk_n (z_wk_s (z_wk_e (z_wk_e (z_wk_0)))))))) (t_X11_partOf n cx ce a0 a1 a2 S h))
abbrev M_X11_isPart : z_M := (RX11, yX11_isPart, cX11_isPart, 1, some .boolean)
theorem mo_X11_isPart : z_mo M_X11_isPart 1 := ⟨tb_491, tb_5, rfl, ⟨by decide +kernel, by decide +kernel⟩, by decide +kernel, by decide⟩
theorem ms_X11_isPart : z_ms M_X11_isPart := tb_490
def f_X11_isPart (a0 : Int32) (S : z_Stt) : Option (Bool × z_Stt) :=
  g_bd (f_X11_within (Int32.toInt64 a0) 0 1 S) fun v1 S2 =>
  some (v1, S2)
set_option maxHeartbeats 4000000 in
set_option maxRecDepth 100000 in
theorem t_X11_isPart {g : z_G} {K : z_K} {v : Bool} {S' : z_Stt} (cx : z_C g M_X11_isPart 1 K) (ce : z_E' g M_X11_isPart (z_P g (some (.int (bI v))) S') K) (a0 : Int32) (S : z_Stt) (h : f_X11_isPart a0 S = some (v, S')) : z_At g M_X11_isPart K 0 [some (.int a0)] [] (hp g S) := by
  unfold f_X11_isPart at h
  refine z_iload_n cx rfl rfl dX11_isPart_0 ?_
  refine z_i2l cx dX11_isPart_1 ?_
  refine z_lconst (v := 0) cx (by decide +kernel) dX11_isPart_2 ?_
  refine z_lconst (v := 1) cx (by decide +kernel) dX11_isPart_3 ?_
  obtain ⟨v1, S2, e3, h⟩ := g_bd_ex h
  refine q_csi (As := [.long (Int32.toInt64 a0), .long 0, .long 1]) cx mo_X11_within ms_X11_within tb_185 (by decide) rfl rfl (Nat.le_of_ble_eq_true rfl) dX11_isPart_4 (c_X11_within (Int32.toInt64 a0) 0 1 _ e3) ?_
  obtain ⟨rfl, rfl⟩ := g_some h
  exact z_zreturn cx ce rfl (bI_nar _) ⟨rfl, rfl⟩ dX11_isPart_7
theorem c_X11_isPart {g : z_G} (a0 : Int32) (S : z_Stt) {v : Bool} {S' : z_Stt} (h : f_X11_isPart a0 S = some (v, S')) : z_Ct g M_X11_isPart 1 [.int a0] (hp g S) (z_P g (some (.int (bI v))) S') :=
  z_Ct.of (by decide +kernel) rfl (Nat.le_of_ble_eq_true rfl) (fun K cx ce => q_weak (L' := [some (.int a0)]) (z_wk_s (z_wk_0)) (t_X11_isPart cx ce a0 S h))
abbrev M_X11_open : z_M := (RX11, yX11_open, cX11_open, 4, some .long)
theorem mo_X11_open : z_mo M_X11_open 3 := ⟨tb_483, tb_5, rfl, ⟨by decide +kernel, by decide +kernel⟩, by decide +kernel, by decide⟩
theorem mv_X11_open : z_mv M_X11_open := ⟨tb_481, tb_482⟩
def f_X11_open (n : Nat) (a0 : Int32) (a1 : Int32) (a2 : Int32) (S : z_Stt) : Option (Int64 × z_Stt) :=
  g_bd (f_X11_isThing (Int32.toInt64 a0) S) fun v1 S2 =>
  if v1 = true then
    g_bd (f_X11_within (Int32.toInt64 a1) 0 2 S2) fun v5 S6 =>
    if v5 = true then
      g_bd (f_X11_isPart a2 S6) fun v9 S10 =>
      if v9 = true then
        g_bd (f_X11_asksOpen a0 a1 S10) fun v13 S14 =>
        if v13 = true then
          g_bd (f_X11_partOf n (S14.2.1 4811) (S14.2.1 4812) a2 S14) fun v17 S18 =>
          some (v17, S18)
        else
          some ((-2), S14)
      else
        some ((-9223372036854775808), S10)
    else
      some ((-9223372036854775808), S6)
  else
    some ((-9223372036854775808), S2)
set_option maxHeartbeats 4000000 in
set_option maxRecDepth 100000 in
theorem t_X11_open {g : z_G} {K : z_K} (n : Nat) {v : Int64} {S' : z_Stt} (cx : z_C g M_X11_open 3 K) (ce : z_E' g M_X11_open (z_P g (some (.long v)) S') K) (a0 : Int32) (a1 : Int32) (a2 : Int32) (S : z_Stt) (h : f_X11_open n a0 a1 a2 S = some (v, S')) : z_At g M_X11_open K 0 [some (.ref (z_ad g 48)), some (.int a0), some (.int a1), some (.int a2)] [] (hp g S) := by
  unfold f_X11_open at h
  refine z_aload_n cx rfl rfl dX11_open_0 ?_
  refine z_iload_n cx rfl rfl dX11_open_1 ?_
  refine z_i2l cx dX11_open_2 ?_
  obtain ⟨v1, S2, e3, h⟩ := g_bd_ex h
  refine q_cvi (As := [.long (Int32.toInt64 a0)]) cx mo_X11_isThing mv_X11_isThing z_cl11 rfl tb_274 (by decide) rfl (by decide) rfl rfl (Nat.le_of_ble_eq_true rfl) dX11_open_3 (c_X11_isThing (Int32.toInt64 a0) _ e3) ?_
  refine q_ifb_eq (tgt := 28) cx (by decide) dX11_open_6 (fun c4 => ?_) (fun c4 => ?_)
  · have h := g_f (Bool.eq_false_iff.mp c4) h
    refine z_ldc2 cx tb_485 dX11_open_28 ?_
    obtain ⟨rfl, rfl⟩ := g_some h
    exact z_lreturn cx ce rfl ⟨rfl, rfl⟩ dX11_open_31
  · have h := g_t c4 h
    refine z_iload_n cx rfl rfl dX11_open_9 ?_
    refine z_i2l cx dX11_open_10 ?_
    refine z_lconst (v := 0) cx (by decide +kernel) dX11_open_11 ?_
    refine z_ldc2 cx tb_484 dX11_open_12 ?_
    obtain ⟨v5, S6, e7, h⟩ := g_bd_ex h
    refine q_csi (As := [.long (Int32.toInt64 a1), .long 0, .long 2]) cx mo_X11_within ms_X11_within tb_185 (by decide) rfl rfl (Nat.le_of_ble_eq_true rfl) dX11_open_15 (c_X11_within (Int32.toInt64 a1) 0 2 _ e7) ?_
    refine q_ifb_eq (tgt := 28) cx (by decide) dX11_open_18 (fun c8 => ?_) (fun c8 => ?_)
    · have h := g_f (Bool.eq_false_iff.mp c8) h
      refine z_ldc2 cx tb_485 dX11_open_28 ?_
      obtain ⟨rfl, rfl⟩ := g_some h
      exact z_lreturn cx ce rfl ⟨rfl, rfl⟩ dX11_open_31
    · have h := g_t c8 h
      refine z_iload_n cx rfl rfl dX11_open_21 ?_
      obtain ⟨v9, S10, e11, h⟩ := g_bd_ex h
      refine q_csi (As := [.int a2]) cx mo_X11_isPart ms_X11_isPart tb_489 (by decide) rfl rfl (Nat.le_of_ble_eq_true rfl) dX11_open_22 (c_X11_isPart a2 _ e11) ?_
      refine q_ifb_ne (tgt := 32) cx (by decide) dX11_open_25 (fun c12 => ?_) (fun c12 => ?_)
      · have h := g_t c12 h
        refine z_aload_n cx rfl rfl dX11_open_32 ?_
        refine z_iload_n cx rfl rfl dX11_open_33 ?_
        refine z_iload_n cx rfl rfl dX11_open_34 ?_
        obtain ⟨v13, S14, e15, h⟩ := g_bd_ex h
        refine q_cvi (As := [.int a0, .int a1]) cx mo_X11_asksOpen mv_X11_asksOpen z_cl11 rfl tb_492 (by decide) rfl (by decide) rfl rfl (Nat.le_of_ble_eq_true rfl) dX11_open_35 (c_X11_asksOpen a0 a1 _ e15) ?_
        refine q_ifb_eq (tgt := 56) cx (by decide) dX11_open_38 (fun c16 => ?_) (fun c16 => ?_)
        · have h := g_f (Bool.eq_false_iff.mp c16) h
          refine z_ldc2 cx tb_488 dX11_open_56 ?_
          obtain ⟨rfl, rfl⟩ := g_some h
          exact z_lreturn cx ce rfl ⟨rfl, rfl⟩ dX11_open_59
        · have h := g_t c16 h
          refine z_aload_n cx rfl rfl dX11_open_41 ?_
          refine q_getJ (k := 48) (n := 4811) cx z_cl11 (j := 11) (by decide) tb_486 rfl (by decide) rfl rfl rfl dX11_open_42 ?_
          refine z_aload_n cx rfl rfl dX11_open_45 ?_
          refine q_getJ (k := 48) (n := 4812) cx z_cl11 (j := 12) (by decide) tb_487 rfl (by decide) rfl rfl rfl dX11_open_46 ?_
          refine z_iload_n cx rfl rfl dX11_open_49 ?_
          obtain ⟨v17, S18, e19, h⟩ := g_bd_ex h
          refine q_csl (As := [.long (S14.2.1 4811), .long (S14.2.1 4812), .int a2]) cx mo_X11_partOf ms_X11_partOf tb_508 (by decide) rfl rfl (Nat.le_of_ble_eq_true rfl) dX11_open_50 (c_X11_partOf (S14.2.1 4811) (S14.2.1 4812) a2 _ e19) ?_
          refine z_goto (tgt := 59) cx (by decide) dX11_open_53 ?_
          obtain ⟨rfl, rfl⟩ := g_some h
          exact z_lreturn cx ce rfl ⟨rfl, rfl⟩ dX11_open_59
      · have h := g_f (Bool.eq_false_iff.mp c12) h
        refine z_ldc2 cx tb_485 dX11_open_28 ?_
        obtain ⟨rfl, rfl⟩ := g_some h
        exact z_lreturn cx ce rfl ⟨rfl, rfl⟩ dX11_open_31
theorem c_X11_open {g : z_G} {n : Nat} (a0 : Int32) (a1 : Int32) (a2 : Int32) (S : z_Stt) {v : Int64} {S' : z_Stt} (h : f_X11_open n a0 a1 a2 S = some (v, S')) : z_Ct g M_X11_open 3 [.ref (z_ad g 48), .int a0, .int a1, .int a2] (hp g S) (z_P g (some (.long v)) S') :=
  z_Ct.of (by decide +kernel) rfl (Nat.le_of_ble_eq_true rfl) (fun K cx ce => q_weak (L' := [some (.ref (z_ad g 48)), some (.int a0), some (.int a1), some (.int a2)]) (z_wk_s (z_wk_s (z_wk_s (z_wk_s (z_wk_0))))) (t_X11_open n cx ce a0 a1 a2 S h))
abbrev M_X11_feed : z_M := (RX11, yX11_feed, cX11_feed, 2, some .int)
theorem mo_X11_feed : z_mo M_X11_feed 1 := ⟨tb_325, tb_5, rfl, ⟨by decide +kernel, by decide +kernel⟩, by decide +kernel, by decide⟩
theorem mv_X11_feed : z_mv M_X11_feed := ⟨tb_323, tb_324⟩
def f_X11_feed (a0 : Int32) (S : z_Stt) : Option (Int32 × z_Stt) :=
  g_bd (f_X11_within (Int32.toInt64 a0) 0 255 S) fun v1 S2 =>
  if v1 = true then
    if S2.1 4814 = 120 then
      some ((-3), S2)
    else
      if ¬ (S2.1 4814 < 0 ∨ 120 ≤ (S2.1 4814).toNatClampNeg) then
        g_let (sA S2 55 (upd (S2.2.2.1 55) (S2.1 4814).toNatClampNeg a0)) fun S7 =>
        g_let (sI S7 4814 ((S7.1 4814) + 1)) fun S9 =>
        some (S9.1 4814, S9)
      else none
  else
    some ((-1), S2)
set_option maxHeartbeats 4000000 in
set_option maxRecDepth 100000 in
theorem t_X11_feed {g : z_G} {K : z_K} {v : Int32} {S' : z_Stt} (cx : z_C g M_X11_feed 1 K) (ce : z_E' g M_X11_feed (z_P g (some (.int v)) S') K) (a0 : Int32) (S : z_Stt) (h : f_X11_feed a0 S = some (v, S')) : z_At g M_X11_feed K 0 [some (.ref (z_ad g 48)), some (.int a0)] [] (hp g S) := by
  unfold f_X11_feed at h
  refine z_iload_n cx rfl rfl dX11_feed_0 ?_
  refine z_i2l cx dX11_feed_1 ?_
  refine z_lconst (v := 0) cx (by decide +kernel) dX11_feed_2 ?_
  refine z_ldc2 cx tb_326 dX11_feed_3 ?_
  obtain ⟨v1, S2, e3, h⟩ := g_bd_ex h
  refine q_csi (As := [.long (Int32.toInt64 a0), .long 0, .long 255]) cx mo_X11_within ms_X11_within tb_185 (by decide) rfl rfl (Nat.le_of_ble_eq_true rfl) dX11_feed_6 (c_X11_within (Int32.toInt64 a0) 0 255 _ e3) ?_
  refine q_ifb_ne (tgt := 14) cx (by decide) dX11_feed_9 (fun c4 => ?_) (fun c4 => ?_)
  · have h := g_t c4 h
    refine z_aload_n cx rfl rfl dX11_feed_14 ?_
    refine q_getI (k := 48) (n := 4814) cx z_cl11 (j := 14) (by decide) tb_327 rfl (by decide) rfl rfl rfl dX11_feed_15 ?_
    refine z_bipush (v := 120) cx (by decide +kernel) dX11_feed_18 ?_
    refine z_icmp_ne (tgt := 26) cx (by decide) dX11_feed_20 (fun c5 => ?_) (fun c5 => ?_)
    · have h := g_f c5 h
      refine z_aload_n cx rfl rfl dX11_feed_26 ?_
      refine q_getF (k := 48) (n := 55) (r := 7) cx z_cl11 (j := 13) (by decide) tb_148 rfl (by decide) rfl rfl rfl dX11_feed_27 ?_
      refine z_aload_n cx rfl rfl dX11_feed_30 ?_
      refine q_getI (k := 48) (n := 4814) cx z_cl11 (j := 14) (by decide) tb_327 rfl (by decide) rfl rfl rfl dX11_feed_31 ?_
      refine z_iload_n cx rfl rfl dX11_feed_34 ?_
      obtain ⟨c6, h⟩ := g_if h
      refine q_iast cx (by decide) rfl c6 dX11_feed_35 ?_
      obtain ⟨S7, e8, h⟩ := g_let_ex h
      rw [← e8]
      refine z_aload_n cx rfl rfl dX11_feed_36 ?_
      refine z_dup cx rfl dX11_feed_37 ?_
      refine q_getI (k := 48) (n := 4814) cx z_cl11 (j := 14) (by decide) tb_327 rfl (by decide) rfl rfl rfl dX11_feed_38 ?_
      refine z_iconst (v := 1) cx (by decide +kernel) dX11_feed_41 ?_
      refine z_iadd cx dX11_feed_42 ?_
      refine q_putI (k := 48) (n := 4814) cx z_cl11 (j := 14) (by decide) tb_327 rfl rfl rfl (by decide) rfl rfl rfl (by decide) (by decide) dX11_feed_43 ?_
      obtain ⟨S9, e10, h⟩ := g_let_ex h
      rw [← e10]
      refine z_aload_n cx rfl rfl dX11_feed_46 ?_
      refine q_getI (k := 48) (n := 4814) cx z_cl11 (j := 14) (by decide) tb_327 rfl (by decide) rfl rfl rfl dX11_feed_47 ?_
      obtain ⟨rfl, rfl⟩ := g_some h
      exact z_ireturn cx ce rfl ⟨rfl, rfl⟩ dX11_feed_50
    · have h := g_t c5 h
      refine z_bipush (v := (-3)) cx (by decide +kernel) dX11_feed_23 ?_
      obtain ⟨rfl, rfl⟩ := g_some h
      exact z_ireturn cx ce rfl ⟨rfl, rfl⟩ dX11_feed_25
  · have h := g_f (Bool.eq_false_iff.mp c4) h
    refine z_iconst (v := (-1)) cx (by decide +kernel) dX11_feed_12 ?_
    obtain ⟨rfl, rfl⟩ := g_some h
    exact z_ireturn cx ce rfl ⟨rfl, rfl⟩ dX11_feed_13
theorem c_X11_feed {g : z_G} (a0 : Int32) (S : z_Stt) {v : Int32} {S' : z_Stt} (h : f_X11_feed a0 S = some (v, S')) : z_Ct g M_X11_feed 1 [.ref (z_ad g 48), .int a0] (hp g S) (z_P g (some (.int v)) S') :=
  z_Ct.of (by decide +kernel) rfl (Nat.le_of_ble_eq_true rfl) (fun K cx ce => q_weak (L' := [some (.ref (z_ad g 48)), some (.int a0)]) (z_wk_s (z_wk_s (z_wk_0))) (t_X11_feed cx ce a0 S h))
abbrev M_X11_byteAt : z_M := (RX11, yX11_byteAt, cX11_byteAt, 1, some .int)
theorem mo_X11_byteAt : z_mo M_X11_byteAt 0 := ⟨tb_413, tb_5, rfl, ⟨by decide +kernel, by decide +kernel⟩, by decide +kernel, by decide⟩
theorem mv_X11_byteAt : z_mv M_X11_byteAt := ⟨tb_411, tb_412⟩
def f_X11_byteAt (S : z_Stt) : Option (Int32 × z_Stt) :=
  if S.1 4819 ≤ S.1 4818 then
    some (0, S)
  else
    if 0 ≤ S.1 4817 then
      if ¬ ((S.1 4817) + (S.1 4818) < 0 ∨ 120 ≤ ((S.1 4817) + (S.1 4818)).toNatClampNeg) then
        some (S.2.2.1 56 ((S.1 4817) + (S.1 4818)).toNatClampNeg, S)
      else none
    else
      if ¬ (S.1 4818 < 0 ∨ 120 ≤ (S.1 4818).toNatClampNeg) then
        some (S.2.2.1 55 (S.1 4818).toNatClampNeg, S)
      else none
set_option maxHeartbeats 4000000 in
set_option maxRecDepth 100000 in
theorem t_X11_byteAt {g : z_G} {K : z_K} {v : Int32} {S' : z_Stt} (cx : z_C g M_X11_byteAt 0 K) (ce : z_E' g M_X11_byteAt (z_P g (some (.int v)) S') K) (S : z_Stt) (h : f_X11_byteAt S = some (v, S')) : z_At g M_X11_byteAt K 0 [some (.ref (z_ad g 48))] [] (hp g S) := by
  unfold f_X11_byteAt at h
  refine z_aload_n cx rfl rfl dX11_byteAt_0 ?_
  refine q_getI (k := 48) (n := 4818) cx z_cl11 (j := 18) (by decide) tb_396 rfl (by decide) rfl rfl rfl dX11_byteAt_1 ?_
  refine z_aload_n cx rfl rfl dX11_byteAt_4 ?_
  refine q_getI (k := 48) (n := 4819) cx z_cl11 (j := 19) (by decide) tb_397 rfl (by decide) rfl rfl rfl dX11_byteAt_5 ?_
  refine z_icmp_ge (tgt := 47) cx (by decide) dX11_byteAt_8 (fun c1 => ?_) (fun c1 => ?_)
  · have h := g_t c1 h
    refine z_iconst (v := 0) cx (by decide +kernel) dX11_byteAt_47 ?_
    obtain ⟨rfl, rfl⟩ := g_some h
    exact z_ireturn cx ce rfl ⟨rfl, rfl⟩ dX11_byteAt_48
  · have h := g_f c1 h
    refine z_aload_n cx rfl rfl dX11_byteAt_11 ?_
    refine q_getI (k := 48) (n := 4817) cx z_cl11 (j := 17) (by decide) tb_395 rfl (by decide) rfl rfl rfl dX11_byteAt_12 ?_
    refine z_if_ge (tgt := 30) cx (by decide) dX11_byteAt_15 (fun c2 => ?_) (fun c2 => ?_)
    · have h := g_t c2 h
      refine z_aload_n cx rfl rfl dX11_byteAt_30 ?_
      refine q_getF (k := 48) (n := 56) (r := 8) cx z_cl11 (j := 15) (by decide) tb_149 rfl (by decide) rfl rfl rfl dX11_byteAt_31 ?_
      refine z_aload_n cx rfl rfl dX11_byteAt_34 ?_
      refine q_getI (k := 48) (n := 4817) cx z_cl11 (j := 17) (by decide) tb_395 rfl (by decide) rfl rfl rfl dX11_byteAt_35 ?_
      refine z_aload_n cx rfl rfl dX11_byteAt_38 ?_
      refine q_getI (k := 48) (n := 4818) cx z_cl11 (j := 18) (by decide) tb_396 rfl (by decide) rfl rfl rfl dX11_byteAt_39 ?_
      refine z_iadd cx dX11_byteAt_42 ?_
      obtain ⟨c3, h⟩ := g_if h
      refine q_iald cx (by decide) rfl c3 dX11_byteAt_43 ?_
      refine z_goto (tgt := 48) cx (by decide) dX11_byteAt_44 ?_
      obtain ⟨rfl, rfl⟩ := g_some h
      exact z_ireturn cx ce rfl ⟨rfl, rfl⟩ dX11_byteAt_48
    · have h := g_f c2 h
      refine z_aload_n cx rfl rfl dX11_byteAt_18 ?_
      refine q_getF (k := 48) (n := 55) (r := 7) cx z_cl11 (j := 13) (by decide) tb_148 rfl (by decide) rfl rfl rfl dX11_byteAt_19 ?_
      refine z_aload_n cx rfl rfl dX11_byteAt_22 ?_
      refine q_getI (k := 48) (n := 4818) cx z_cl11 (j := 18) (by decide) tb_396 rfl (by decide) rfl rfl rfl dX11_byteAt_23 ?_
      obtain ⟨c4, h⟩ := g_if h
      refine q_iald cx (by decide) rfl c4 dX11_byteAt_26 ?_
      refine z_goto (tgt := 48) cx (by decide) dX11_byteAt_27 ?_
      obtain ⟨rfl, rfl⟩ := g_some h
      exact z_ireturn cx ce rfl ⟨rfl, rfl⟩ dX11_byteAt_48
theorem c_X11_byteAt {g : z_G} (S : z_Stt) {v : Int32} {S' : z_Stt} (h : f_X11_byteAt S = some (v, S')) : z_Ct g M_X11_byteAt 0 [.ref (z_ad g 48)] (hp g S) (z_P g (some (.int v)) S') :=
  z_Ct.of (by decide +kernel) rfl (Nat.le_of_ble_eq_true rfl) (fun K cx ce => q_weak (L' := [some (.ref (z_ad g 48))]) (z_wk_s (z_wk_0)) (t_X11_byteAt cx ce S h))
abbrev M_X11_wrong : z_M := (RX11, yX11_wrong, cX11_wrong, 1, some .int)
theorem mo_X11_wrong : z_mo M_X11_wrong 0 := ⟨tb_426, tb_5, rfl, ⟨by decide +kernel, by decide +kernel⟩, by decide +kernel, by decide⟩
theorem mv_X11_wrong : z_mv M_X11_wrong := ⟨tb_424, tb_425⟩
def f_X11_wrong_19 (y0 : Int32) (S : z_Stt) : Option (Int32 × z_Stt) :=
  g_let (sI S 4820 y0) fun S1 =>
  some (0, S1)
set_option maxHeartbeats 4000000 in
set_option maxRecDepth 100000 in
theorem t_X11_wrong_19 {g : z_G} {K : z_K} {v : Int32} {S' : z_Stt} (cx : z_C g M_X11_wrong 0 K) (ce : z_E' g M_X11_wrong (z_P g (some (.int v)) S') K) (y0 : Int32) (S : z_Stt) (h : f_X11_wrong_19 y0 S = some (v, S')) : z_At g M_X11_wrong K 19 [none] [.int y0, .ref (z_ad g 48)] (hp g S) := by
  unfold f_X11_wrong_19 at h
  refine q_putI (k := 48) (n := 4820) cx z_cl11 (j := 20) (by decide) tb_390 rfl rfl rfl (by decide) rfl rfl rfl (by decide) (by decide) dX11_wrong_19 ?_
  obtain ⟨S1, e2, h⟩ := g_let_ex h
  rw [← e2]
  refine z_iconst (v := 0) cx (by decide +kernel) dX11_wrong_22 ?_
  obtain ⟨rfl, rfl⟩ := g_some h
  exact z_ireturn cx ce rfl ⟨rfl, rfl⟩ dX11_wrong_23
def f_X11_wrong (S : z_Stt) : Option (Int32 × z_Stt) :=
  if 0 ≤ S.1 4820 then
    f_X11_wrong_19 (S.1 4820) S
  else
    f_X11_wrong_19 (S.1 4818) S
set_option maxHeartbeats 4000000 in
set_option maxRecDepth 100000 in
theorem t_X11_wrong {g : z_G} {K : z_K} {v : Int32} {S' : z_Stt} (cx : z_C g M_X11_wrong 0 K) (ce : z_E' g M_X11_wrong (z_P g (some (.int v)) S') K) (S : z_Stt) (h : f_X11_wrong S = some (v, S')) : z_At g M_X11_wrong K 0 [some (.ref (z_ad g 48))] [] (hp g S) := by
  unfold f_X11_wrong at h
  refine z_aload_n cx rfl rfl dX11_wrong_0 ?_
  refine z_aload_n cx rfl rfl dX11_wrong_1 ?_
  refine q_getI (k := 48) (n := 4820) cx z_cl11 (j := 20) (by decide) tb_390 rfl (by decide) rfl rfl rfl dX11_wrong_2 ?_
  refine z_if_ge (tgt := 15) cx (by decide) dX11_wrong_5 (fun c1 => ?_) (fun c1 => ?_)
  · have h := g_t c1 h
    refine z_aload_n cx rfl rfl dX11_wrong_15 ?_
    refine q_getI (k := 48) (n := 4820) cx z_cl11 (j := 20) (by decide) tb_390 rfl (by decide) rfl rfl rfl dX11_wrong_16 ?_
    exact q_weak (z_wk_n (z_wk_0)) (t_X11_wrong_19 cx ce (S.1 4820) S h)
  · have h := g_f c1 h
    refine z_aload_n cx rfl rfl dX11_wrong_8 ?_
    refine q_getI (k := 48) (n := 4818) cx z_cl11 (j := 18) (by decide) tb_396 rfl (by decide) rfl rfl rfl dX11_wrong_9 ?_
    refine z_goto (tgt := 19) cx (by decide) dX11_wrong_12 ?_
    exact q_weak (z_wk_n (z_wk_0)) (t_X11_wrong_19 cx ce (S.1 4818) S h)
theorem c_X11_wrong {g : z_G} (S : z_Stt) {v : Int32} {S' : z_Stt} (h : f_X11_wrong S = some (v, S')) : z_Ct g M_X11_wrong 0 [.ref (z_ad g 48)] (hp g S) (z_P g (some (.int v)) S') :=
  z_Ct.of (by decide +kernel) rfl (Nat.le_of_ble_eq_true rfl) (fun K cx ce => q_weak (L' := [some (.ref (z_ad g 48))]) (z_wk_s (z_wk_0)) (t_X11_wrong cx ce S h))
abbrev M_X11_takes : z_M := (RX11, yX11_takes, cX11_takes, 2, some .boolean)
theorem mo_X11_takes : z_mo M_X11_takes 1 := ⟨tb_409, tb_5, rfl, ⟨by decide +kernel, by decide +kernel⟩, by decide +kernel, by decide⟩
theorem mv_X11_takes : z_mv M_X11_takes := ⟨tb_407, tb_408⟩
def f_X11_takes (a0 : Int32) (S : z_Stt) : Option (Bool × z_Stt) :=
  if 0 ≤ S.1 4820 then
    some (false, S)
  else
    g_bd (f_X11_byteAt S) fun v2 S3 =>
    if v2 = a0 then
      g_let (sI S3 4818 ((S3.1 4818) + 1)) fun S6 =>
      some (true, S6)
    else
      some (false, S3)
set_option maxHeartbeats 4000000 in
set_option maxRecDepth 100000 in
theorem t_X11_takes {g : z_G} {K : z_K} {v : Bool} {S' : z_Stt} (cx : z_C g M_X11_takes 1 K) (ce : z_E' g M_X11_takes (z_P g (some (.int (bI v))) S') K) (a0 : Int32) (S : z_Stt) (h : f_X11_takes a0 S = some (v, S')) : z_At g M_X11_takes K 0 [some (.ref (z_ad g 48)), some (.int a0)] [] (hp g S) := by
  unfold f_X11_takes at h
  refine z_aload_n cx rfl rfl dX11_takes_0 ?_
  refine q_getI (k := 48) (n := 4820) cx z_cl11 (j := 20) (by decide) tb_390 rfl (by decide) rfl rfl rfl dX11_takes_1 ?_
  refine z_if_ge (tgt := 15) cx (by decide) dX11_takes_4 (fun c1 => ?_) (fun c1 => ?_)
  · have h := g_t c1 h
    refine z_iconst (v := 0) cx (by decide +kernel) dX11_takes_15 ?_
    obtain ⟨rfl, rfl⟩ := g_some h
    exact z_zreturn cx ce rfl (by decide +kernel) ⟨rfl, rfl⟩ dX11_takes_16
  · have h := g_f c1 h
    refine z_aload_n cx rfl rfl dX11_takes_7 ?_
    obtain ⟨v2, S3, e4, h⟩ := g_bd_ex h
    refine q_cvi (As := []) cx mo_X11_byteAt mv_X11_byteAt z_cl11 rfl tb_410 (by decide) rfl (by decide) rfl rfl (Nat.le_of_ble_eq_true rfl) dX11_takes_8 (c_X11_byteAt  _ e4) ?_
    refine z_iload_n cx rfl rfl dX11_takes_11 ?_
    refine z_icmp_eq (tgt := 17) cx (by decide) dX11_takes_12 (fun c5 => ?_) (fun c5 => ?_)
    · have h := g_t c5 h
      refine z_aload_n cx rfl rfl dX11_takes_17 ?_
      refine z_dup cx rfl dX11_takes_18 ?_
      refine q_getI (k := 48) (n := 4818) cx z_cl11 (j := 18) (by decide) tb_396 rfl (by decide) rfl rfl rfl dX11_takes_19 ?_
      refine z_iconst (v := 1) cx (by decide +kernel) dX11_takes_22 ?_
      refine z_iadd cx dX11_takes_23 ?_
      refine q_putI (k := 48) (n := 4818) cx z_cl11 (j := 18) (by decide) tb_396 rfl rfl rfl (by decide) rfl rfl rfl (by decide) (by decide) dX11_takes_24 ?_
      obtain ⟨S6, e7, h⟩ := g_let_ex h
      rw [← e7]
      refine z_iconst (v := 1) cx (by decide +kernel) dX11_takes_27 ?_
      obtain ⟨rfl, rfl⟩ := g_some h
      exact z_zreturn cx ce rfl (by decide +kernel) ⟨rfl, rfl⟩ dX11_takes_28
    · have h := g_f c5 h
      refine z_iconst (v := 0) cx (by decide +kernel) dX11_takes_15 ?_
      obtain ⟨rfl, rfl⟩ := g_some h
      exact z_zreturn cx ce rfl (by decide +kernel) ⟨rfl, rfl⟩ dX11_takes_16
theorem c_X11_takes {g : z_G} (a0 : Int32) (S : z_Stt) {v : Bool} {S' : z_Stt} (h : f_X11_takes a0 S = some (v, S')) : z_Ct g M_X11_takes 1 [.ref (z_ad g 48), .int a0] (hp g S) (z_P g (some (.int (bI v))) S') :=
  z_Ct.of (by decide +kernel) rfl (Nat.le_of_ble_eq_true rfl) (fun K cx ce => q_weak (L' := [some (.ref (z_ad g 48)), some (.int a0)]) (z_wk_s (z_wk_s (z_wk_0))) (t_X11_takes cx ce a0 S h))
abbrev M_X11_nameOf : z_M := (RX11, yX11_nameOf, cX11_nameOf, 1, some .int)
theorem mo_X11_nameOf : z_mo M_X11_nameOf 1 := ⟨tb_432, tb_5, rfl, ⟨by decide +kernel, by decide +kernel⟩, by decide +kernel, by decide⟩
theorem ms_X11_nameOf : z_ms M_X11_nameOf := tb_431
def f_X11_nameOf (a0 : Int32) (S : z_Stt) : Option (Int32 × z_Stt) :=
  if a0 = 104 then
    some (1, S)
  else if a0 = 110 then
    some (5, S)
  else if a0 = 111 then
    some (0, S)
  else if a0 = 112 then
    some (3, S)
  else if a0 = 118 then
    some (4, S)
  else if a0 = 121 then
    some (2, S)
  else 
    some ((-1), S)
set_option maxHeartbeats 4000000 in
set_option maxRecDepth 100000 in
theorem t_X11_nameOf {g : z_G} {K : z_K} {v : Int32} {S' : z_Stt} (cx : z_C g M_X11_nameOf 0 K) (ce : z_E' g M_X11_nameOf (z_P g (some (.int v)) S') K) (a0 : Int32) (S : z_Stt) (h : f_X11_nameOf a0 S = some (v, S')) : z_At g M_X11_nameOf K 0 [some (.int a0)] [] (hp g S) := by
  unfold f_X11_nameOf at h
  refine z_iload_n cx rfl rfl dX11_nameOf_0 ?_
  by_cases c1 : a0 = 104
  · have h := g_t c1 h
    refine z_tableIn (tgt := 90) (off := 89) cx (by rw [c1]; decide +kernel) (by rw [c1]; decide +kernel) (by rw [c1]; decide +kernel) (by decide) dX11_nameOf_1 ?_
    refine z_iconst (v := 1) cx (by decide +kernel) dX11_nameOf_90 ?_
    obtain ⟨rfl, rfl⟩ := g_some h
    exact z_ireturn cx ce rfl ⟨rfl, rfl⟩ dX11_nameOf_91
  have h := g_f c1 h
  by_cases c2 : a0 = 110
  · have h := g_t c2 h
    refine z_tableIn (tgt := 98) (off := 97) cx (by rw [c2]; decide +kernel) (by rw [c2]; decide +kernel) (by rw [c2]; decide +kernel) (by decide) dX11_nameOf_1 ?_
    refine z_iconst (v := 5) cx (by decide +kernel) dX11_nameOf_98 ?_
    obtain ⟨rfl, rfl⟩ := g_some h
    exact z_ireturn cx ce rfl ⟨rfl, rfl⟩ dX11_nameOf_99
  have h := g_f c2 h
  by_cases c3 : a0 = 111
  · have h := g_t c3 h
    refine z_tableIn (tgt := 88) (off := 87) cx (by rw [c3]; decide +kernel) (by rw [c3]; decide +kernel) (by rw [c3]; decide +kernel) (by decide) dX11_nameOf_1 ?_
    refine z_iconst (v := 0) cx (by decide +kernel) dX11_nameOf_88 ?_
    obtain ⟨rfl, rfl⟩ := g_some h
    exact z_ireturn cx ce rfl ⟨rfl, rfl⟩ dX11_nameOf_89
  have h := g_f c3 h
  by_cases c4 : a0 = 112
  · have h := g_t c4 h
    refine z_tableIn (tgt := 94) (off := 93) cx (by rw [c4]; decide +kernel) (by rw [c4]; decide +kernel) (by rw [c4]; decide +kernel) (by decide) dX11_nameOf_1 ?_
    refine z_iconst (v := 3) cx (by decide +kernel) dX11_nameOf_94 ?_
    obtain ⟨rfl, rfl⟩ := g_some h
    exact z_ireturn cx ce rfl ⟨rfl, rfl⟩ dX11_nameOf_95
  have h := g_f c4 h
  by_cases c5 : a0 = 118
  · have h := g_t c5 h
    refine z_tableIn (tgt := 96) (off := 95) cx (by rw [c5]; decide +kernel) (by rw [c5]; decide +kernel) (by rw [c5]; decide +kernel) (by decide) dX11_nameOf_1 ?_
    refine z_iconst (v := 4) cx (by decide +kernel) dX11_nameOf_96 ?_
    obtain ⟨rfl, rfl⟩ := g_some h
    exact z_ireturn cx ce rfl ⟨rfl, rfl⟩ dX11_nameOf_97
  have h := g_f c5 h
  by_cases c6 : a0 = 121
  · have h := g_t c6 h
    refine z_tableIn (tgt := 92) (off := 91) cx (by rw [c6]; decide +kernel) (by rw [c6]; decide +kernel) (by rw [c6]; decide +kernel) (by decide) dX11_nameOf_1 ?_
    refine z_iconst (v := 2) cx (by decide +kernel) dX11_nameOf_92 ?_
    obtain ⟨rfl, rfl⟩ := g_some h
    exact z_ireturn cx ce rfl ⟨rfl, rfl⟩ dX11_nameOf_93
  have h := g_f c6 h
  refine q_tableD (tgt := 100) (lo := 104) (hi := 121) cx [104, 110, 111, 112, 118, 121] (by decide +kernel) (by intro a ha; simp only [List.mem_cons, List.not_mem_nil, or_false] at ha; rcases ha with rfl | rfl | rfl | rfl | rfl | rfl <;> assumption) (by decide) dX11_nameOf_1 ?_
  refine z_iconst (v := (-1)) cx (by decide +kernel) dX11_nameOf_100 ?_
  obtain ⟨rfl, rfl⟩ := g_some h
  exact z_ireturn cx ce rfl ⟨rfl, rfl⟩ dX11_nameOf_101
theorem c_X11_nameOf {g : z_G} (a0 : Int32) (S : z_Stt) {v : Int32} {S' : z_Stt} (h : f_X11_nameOf a0 S = some (v, S')) : z_Ct g M_X11_nameOf 0 [.int a0] (hp g S) (z_P g (some (.int v)) S') :=
  z_Ct.of (by decide +kernel) rfl (Nat.le_of_ble_eq_true rfl) (fun K cx ce => q_weak (L' := [some (.int a0)]) (z_wk_s (z_wk_0)) (t_X11_nameOf cx ce a0 S h))
abbrev GT_X11_either : Type := (z_Stt → Option (Int32 × z_Stt)) × (z_Stt → Option (Int32 × z_Stt)) × (z_Stt → Option (Int32 × z_Stt)) × (z_Stt → Option (Int32 × z_Stt)) × (z_Stt → Option (Int32 × z_Stt)) × (z_Stt → Option (Int32 × z_Stt))
def HG_X11_either (g : z_G) (G : GT_X11_either) (d0 : Nat) : Prop := (∀ (S : z_Stt) (v : Int32) (S' : z_Stt), G.1 S = some (v, S') → z_Ct g (RX11, yX11_either, cX11_either, 3, some .int) d0 [.ref (z_ad g 48)] (hp g S) (z_P g (some (.int v)) S')) ∧ (∀ (S : z_Stt) (v : Int32) (S' : z_Stt), G.2.1 S = some (v, S') → z_Ct g (RX11, yX11_both, cX11_both, 3, some .int) d0 [.ref (z_ad g 48)] (hp g S) (z_P g (some (.int v)) S')) ∧ (∀ (S : z_Stt) (v : Int32) (S' : z_Stt), G.2.2.1 S = some (v, S') → z_Ct g (RX11, yX11_compared, cX11_compared, 4, some .int) d0 [.ref (z_ad g 48)] (hp g S) (z_P g (some (.int v)) S')) ∧ (∀ (S : z_Stt) (v : Int32) (S' : z_Stt), G.2.2.2.1 S = some (v, S') → z_Ct g (RX11, yX11_sums, cX11_sums, 4, some .int) d0 [.ref (z_ad g 48)] (hp g S) (z_P g (some (.int v)) S')) ∧ (∀ (S : z_Stt) (v : Int32) (S' : z_Stt), G.2.2.2.2.1 S = some (v, S') → z_Ct g (RX11, yX11_product, cX11_product, 4, some .int) d0 [.ref (z_ad g 48)] (hp g S) (z_P g (some (.int v)) S')) ∧ (∀ (S : z_Stt) (v : Int32) (S' : z_Stt), G.2.2.2.2.2 S = some (v, S') → z_Ct g (RX11, yX11_one, cX11_one, 5, some .int) d0 [.ref (z_ad g 48)] (hp g S) (z_P g (some (.int v)) S'))
abbrev M_X11_either : z_M := (RX11, yX11_either, cX11_either, 3, some .int)
theorem mo_X11_either : z_mo M_X11_either 0 := ⟨tb_402, tb_5, rfl, ⟨by decide +kernel, by decide +kernel⟩, by decide +kernel, by decide⟩
theorem mv_X11_either : z_mv M_X11_either := ⟨tb_400, tb_401⟩
abbrev M_X11_both : z_M := (RX11, yX11_both, cX11_both, 3, some .int)
theorem mo_X11_both : z_mo M_X11_both 0 := ⟨tb_414, tb_5, rfl, ⟨by decide +kernel, by decide +kernel⟩, by decide +kernel, by decide⟩
theorem mv_X11_both : z_mv M_X11_both := ⟨tb_404, tb_405⟩
abbrev M_X11_compared : z_M := (RX11, yX11_compared, cX11_compared, 4, some .int)
theorem mo_X11_compared : z_mo M_X11_compared 0 := ⟨tb_418, tb_5, rfl, ⟨by decide +kernel, by decide +kernel⟩, by decide +kernel, by decide⟩
theorem mv_X11_compared : z_mv M_X11_compared := ⟨tb_416, tb_417⟩
abbrev M_X11_sums : z_M := (RX11, yX11_sums, cX11_sums, 4, some .int)
theorem mo_X11_sums : z_mo M_X11_sums 0 := ⟨tb_434, tb_5, rfl, ⟨by decide +kernel, by decide +kernel⟩, by decide +kernel, by decide⟩
theorem mv_X11_sums : z_mv M_X11_sums := ⟨tb_420, tb_421⟩
abbrev M_X11_product : z_M := (RX11, yX11_product, cX11_product, 4, some .int)
theorem mo_X11_product : z_mo M_X11_product 0 := ⟨tb_433, tb_5, rfl, ⟨by decide +kernel, by decide +kernel⟩, by decide +kernel, by decide⟩
theorem mv_X11_product : z_mv M_X11_product := ⟨tb_436, tb_437⟩
abbrev M_X11_one : z_M := (RX11, yX11_one, cX11_one, 5, some .int)
theorem mo_X11_one : z_mo M_X11_one 0 := ⟨tb_422, tb_5, rfl, ⟨by decide +kernel, by decide +kernel⟩, by decide +kernel, by decide⟩
theorem mv_X11_one : z_mv M_X11_one := ⟨tb_428, tb_429⟩
def f_X11_either_32 (n : Nat) (G : GT_X11_either) (k5 : Int32 → z_Stt → Option (Int32 × z_Stt)) (y0 : Int32) (S : z_Stt) : Option (Int32 × z_Stt) :=
  k5 y0 S
set_option maxHeartbeats 4000000 in
set_option maxRecDepth 100000 in
theorem t_X11_either_32 {g : z_G} {K : z_K} (n : Nat) (G : GT_X11_either) {d0 : Nat} (hG : HG_X11_either g G d0) (hb : 1 ≤ d0) {v : Int32} {S' : z_Stt} (cx : z_C g M_X11_either (d0 + 1) K) (ce : z_E' g M_X11_either (z_P g (some (.int v)) S') K) (k5 : Int32 → z_Stt → Option (Int32 × z_Stt)) (hk5 : ∀ (x1 : Int32) (S : z_Stt), k5 x1 S = some (v, S') → z_At g M_X11_either K 5 [some (.ref (z_ad g 48)), some (.int x1), none] [] (hp g S)) (y0 : Int32) (S : z_Stt) (h : f_X11_either_32 n G k5 y0 S = some (v, S')) : z_At g M_X11_either K 32 [some (.ref (z_ad g 48)), none, none] [.int y0] (hp g S) := by
  unfold f_X11_either_32 at h
  refine z_istore_n (L' := [some (.ref (z_ad g 48)), some (.int y0), none]) cx rfl (by decide) rfl dX11_either_32 ?_
  refine z_goto (tgt := 5) cx (by decide) dX11_either_33 ?_
  exact q_weak (z_wk_s (z_wk_s (z_wk_n (z_wk_0)))) (hk5 y0 S h)
def f_X11_either_27 (n : Nat) (G : GT_X11_either) (k5 : Int32 → z_Stt → Option (Int32 × z_Stt)) (S : z_Stt) : Option (Int32 × z_Stt) :=
  f_X11_either_32 n G k5 1 S
set_option maxHeartbeats 4000000 in
set_option maxRecDepth 100000 in
theorem t_X11_either_27 {g : z_G} {K : z_K} (n : Nat) (G : GT_X11_either) {d0 : Nat} (hG : HG_X11_either g G d0) (hb : 1 ≤ d0) {v : Int32} {S' : z_Stt} (cx : z_C g M_X11_either (d0 + 1) K) (ce : z_E' g M_X11_either (z_P g (some (.int v)) S') K) (k5 : Int32 → z_Stt → Option (Int32 × z_Stt)) (hk5 : ∀ (x1 : Int32) (S : z_Stt), k5 x1 S = some (v, S') → z_At g M_X11_either K 5 [some (.ref (z_ad g 48)), some (.int x1), none] [] (hp g S)) (S : z_Stt) (h : f_X11_either_27 n G k5 S = some (v, S')) : z_At g M_X11_either K 27 [some (.ref (z_ad g 48)), none, none] [] (hp g S) := by
  unfold f_X11_either_27 at h
  refine z_iconst (v := 1) cx (by decide +kernel) dX11_either_27 ?_
  refine z_goto (tgt := 32) cx (by decide) dX11_either_28 ?_
  exact q_weak (z_wk_s (z_wk_n (z_wk_n (z_wk_0)))) (t_X11_either_32 n G hG hb cx ce k5 hk5 1 S h)
def f_X11_either_5 (n : Nat) (G : GT_X11_either) : Nat → Int32 → z_Stt → Option (Int32 × z_Stt)
  | 0, _, _ => none
  | m + 1, x1, S =>
    g_bd (f_X11_takes 124 S) fun v1 S2 =>
    if v1 = true then
      g_bd (G.2.1 S2) fun v5 S6 =>
      if x1 = 0 then
        if v5 = 0 then
          f_X11_either_32 n G (f_X11_either_5 n G m) 0 S6
        else
          f_X11_either_27 n G (f_X11_either_5 n G m) S6
      else
        f_X11_either_27 n G (f_X11_either_5 n G m) S6
    else
      some (x1, S2)
set_option maxHeartbeats 4000000 in
set_option maxRecDepth 100000 in
theorem t_X11_either_5 {g : z_G} {K : z_K} (n : Nat) (G : GT_X11_either) {d0 : Nat} (hG : HG_X11_either g G d0) (hb : 1 ≤ d0) {v : Int32} {S' : z_Stt} (cx : z_C g M_X11_either (d0 + 1) K) (ce : z_E' g M_X11_either (z_P g (some (.int v)) S') K) : ∀ (m : Nat) (x1 : Int32) (S : z_Stt) (h : f_X11_either_5 n G m x1 S = some (v, S')), z_At g M_X11_either K 5 [some (.ref (z_ad g 48)), some (.int x1), none] [] (hp g S) := by
  intro m
  induction m with
  | zero => intro x1 S h; simp [f_X11_either_5] at h
  | succ m ih =>
    intro x1 S h
    rw [f_X11_either_5] at h
    refine z_aload_n cx rfl rfl dX11_either_5 ?_
    refine z_bipush (v := 124) cx (by decide +kernel) dX11_either_6 ?_
    obtain ⟨v1, S2, e3, h⟩ := g_bd_ex h
    refine q_cvi (As := [.int 124]) cx mo_X11_takes mv_X11_takes z_cl11 rfl tb_406 (by omega) rfl (by decide) rfl rfl (Nat.le_of_ble_eq_true rfl) dX11_either_8 (c_X11_takes 124 _ e3) ?_
    refine q_ifb_eq (tgt := 36) cx (by decide) dX11_either_11 (fun c4 => ?_) (fun c4 => ?_)
    · have h := g_f (Bool.eq_false_iff.mp c4) h
      refine z_iload_n cx rfl rfl dX11_either_36 ?_
      obtain ⟨rfl, rfl⟩ := g_some h
      exact z_ireturn cx ce rfl ⟨rfl, rfl⟩ dX11_either_37
    · have h := g_t c4 h
      refine z_aload_n cx rfl rfl dX11_either_14 ?_
      obtain ⟨v5, S6, e7, h⟩ := g_bd_ex h
      refine q_cvi (As := []) cx mo_X11_both mv_X11_both z_cl11 rfl tb_403 (Nat.le_refl _) rfl (by decide) rfl rfl (Nat.le_of_ble_eq_true rfl) dX11_either_15 (hG.2.1  _ _ _ e7) ?_
      refine z_istore_n (L' := [some (.ref (z_ad g 48)), some (.int x1), some (.int v5)]) cx rfl (by decide) rfl dX11_either_18 ?_
      refine z_iload_n cx rfl rfl dX11_either_19 ?_
      refine z_if_ne (tgt := 27) cx (by decide) dX11_either_20 (fun c8 => ?_) (fun c8 => ?_)
      · have h := g_f c8 h
        exact q_weak (z_wk_s (z_wk_n (z_wk_n (z_wk_0)))) (t_X11_either_27 n G hG hb cx ce (f_X11_either_5 n G m) ih S6 h)
      · have h := g_t c8 h
        refine z_iload_n cx rfl rfl dX11_either_23 ?_
        refine z_if_eq (tgt := 31) cx (by decide) dX11_either_24 (fun c9 => ?_) (fun c9 => ?_)
        · have h := g_t c9 h
          refine z_iconst (v := 0) cx (by decide +kernel) dX11_either_31 ?_
          exact q_weak (z_wk_s (z_wk_n (z_wk_n (z_wk_0)))) (t_X11_either_32 n G hG hb cx ce (f_X11_either_5 n G m) ih 0 S6 h)
        · have h := g_f c9 h
          exact q_weak (z_wk_s (z_wk_n (z_wk_n (z_wk_0)))) (t_X11_either_27 n G hG hb cx ce (f_X11_either_5 n G m) ih S6 h)
def f_X11_either (n : Nat) (G : GT_X11_either) (S : z_Stt) : Option (Int32 × z_Stt) :=
  g_bd (G.2.1 S) fun v1 S2 =>
  f_X11_either_5 n G n v1 S2
set_option maxHeartbeats 4000000 in
set_option maxRecDepth 100000 in
theorem t_X11_either {g : z_G} {K : z_K} (n : Nat) (G : GT_X11_either) {d0 : Nat} (hG : HG_X11_either g G d0) (hb : 1 ≤ d0) {v : Int32} {S' : z_Stt} (cx : z_C g M_X11_either (d0 + 1) K) (ce : z_E' g M_X11_either (z_P g (some (.int v)) S') K) (S : z_Stt) (h : f_X11_either n G S = some (v, S')) : z_At g M_X11_either K 0 [some (.ref (z_ad g 48)), none, none] [] (hp g S) := by
  unfold f_X11_either at h
  refine z_aload_n cx rfl rfl dX11_either_0 ?_
  obtain ⟨v1, S2, e3, h⟩ := g_bd_ex h
  refine q_cvi (As := []) cx mo_X11_both mv_X11_both z_cl11 rfl tb_403 (Nat.le_refl _) rfl (by decide) rfl rfl (Nat.le_of_ble_eq_true rfl) dX11_either_1 (hG.2.1  _ _ _ e3) ?_
  refine z_istore_n (L' := [some (.ref (z_ad g 48)), some (.int v1), none]) cx rfl (by decide) rfl dX11_either_4 ?_
  exact q_weak (z_wk_s (z_wk_s (z_wk_n (z_wk_0)))) (t_X11_either_5 n G hG hb cx ce n v1 S2 h)
theorem c_X11_either {g : z_G} {n : Nat} {G : GT_X11_either} {d0 : Nat} (hG : HG_X11_either g G d0) (hb : 1 ≤ d0) (S : z_Stt) {v : Int32} {S' : z_Stt} (h : f_X11_either n G S = some (v, S')) : z_Ct g M_X11_either (d0 + 1) [.ref (z_ad g 48)] (hp g S) (z_P g (some (.int v)) S') :=
  z_Ct.of (by decide +kernel) rfl (Nat.le_of_ble_eq_true rfl) (fun K cx ce => q_weak (L' := [some (.ref (z_ad g 48)), none, none]) (z_wk_s (z_wk_e (z_wk_e (z_wk_0)))) (t_X11_either n G hG hb cx ce S h))
def f_X11_both_32 (n : Nat) (G : GT_X11_either) (k5 : Int32 → z_Stt → Option (Int32 × z_Stt)) (y0 : Int32) (S : z_Stt) : Option (Int32 × z_Stt) :=
  k5 y0 S
set_option maxHeartbeats 4000000 in
set_option maxRecDepth 100000 in
theorem t_X11_both_32 {g : z_G} {K : z_K} (n : Nat) (G : GT_X11_either) {d0 : Nat} (hG : HG_X11_either g G d0) (hb : 1 ≤ d0) {v : Int32} {S' : z_Stt} (cx : z_C g M_X11_both (d0 + 1) K) (ce : z_E' g M_X11_both (z_P g (some (.int v)) S') K) (k5 : Int32 → z_Stt → Option (Int32 × z_Stt)) (hk5 : ∀ (x1 : Int32) (S : z_Stt), k5 x1 S = some (v, S') → z_At g M_X11_both K 5 [some (.ref (z_ad g 48)), some (.int x1), none] [] (hp g S)) (y0 : Int32) (S : z_Stt) (h : f_X11_both_32 n G k5 y0 S = some (v, S')) : z_At g M_X11_both K 32 [some (.ref (z_ad g 48)), none, none] [.int y0] (hp g S) := by
  unfold f_X11_both_32 at h
  refine z_istore_n (L' := [some (.ref (z_ad g 48)), some (.int y0), none]) cx rfl (by decide) rfl dX11_both_32 ?_
  refine z_goto (tgt := 5) cx (by decide) dX11_both_33 ?_
  exact q_weak (z_wk_s (z_wk_s (z_wk_n (z_wk_0)))) (hk5 y0 S h)
def f_X11_both_31 (n : Nat) (G : GT_X11_either) (k5 : Int32 → z_Stt → Option (Int32 × z_Stt)) (S : z_Stt) : Option (Int32 × z_Stt) :=
  f_X11_both_32 n G k5 0 S
set_option maxHeartbeats 4000000 in
set_option maxRecDepth 100000 in
theorem t_X11_both_31 {g : z_G} {K : z_K} (n : Nat) (G : GT_X11_either) {d0 : Nat} (hG : HG_X11_either g G d0) (hb : 1 ≤ d0) {v : Int32} {S' : z_Stt} (cx : z_C g M_X11_both (d0 + 1) K) (ce : z_E' g M_X11_both (z_P g (some (.int v)) S') K) (k5 : Int32 → z_Stt → Option (Int32 × z_Stt)) (hk5 : ∀ (x1 : Int32) (S : z_Stt), k5 x1 S = some (v, S') → z_At g M_X11_both K 5 [some (.ref (z_ad g 48)), some (.int x1), none] [] (hp g S)) (S : z_Stt) (h : f_X11_both_31 n G k5 S = some (v, S')) : z_At g M_X11_both K 31 [some (.ref (z_ad g 48)), none, none] [] (hp g S) := by
  unfold f_X11_both_31 at h
  refine z_iconst (v := 0) cx (by decide +kernel) dX11_both_31 ?_
  exact q_weak (z_wk_s (z_wk_n (z_wk_n (z_wk_0)))) (t_X11_both_32 n G hG hb cx ce k5 hk5 0 S h)
def f_X11_both_5 (n : Nat) (G : GT_X11_either) : Nat → Int32 → z_Stt → Option (Int32 × z_Stt)
  | 0, _, _ => none
  | m + 1, x1, S =>
    g_bd (f_X11_takes 38 S) fun v1 S2 =>
    if v1 = true then
      g_bd (G.2.2.1 S2) fun v5 S6 =>
      if x1 = 0 then
        f_X11_both_31 n G (f_X11_both_5 n G m) S6
      else
        if v5 = 0 then
          f_X11_both_31 n G (f_X11_both_5 n G m) S6
        else
          f_X11_both_32 n G (f_X11_both_5 n G m) 1 S6
    else
      some (x1, S2)
set_option maxHeartbeats 4000000 in
set_option maxRecDepth 100000 in
theorem t_X11_both_5 {g : z_G} {K : z_K} (n : Nat) (G : GT_X11_either) {d0 : Nat} (hG : HG_X11_either g G d0) (hb : 1 ≤ d0) {v : Int32} {S' : z_Stt} (cx : z_C g M_X11_both (d0 + 1) K) (ce : z_E' g M_X11_both (z_P g (some (.int v)) S') K) : ∀ (m : Nat) (x1 : Int32) (S : z_Stt) (h : f_X11_both_5 n G m x1 S = some (v, S')), z_At g M_X11_both K 5 [some (.ref (z_ad g 48)), some (.int x1), none] [] (hp g S) := by
  intro m
  induction m with
  | zero => intro x1 S h; simp [f_X11_both_5] at h
  | succ m ih =>
    intro x1 S h
    rw [f_X11_both_5] at h
    refine z_aload_n cx rfl rfl dX11_both_5 ?_
    refine z_bipush (v := 38) cx (by decide +kernel) dX11_both_6 ?_
    obtain ⟨v1, S2, e3, h⟩ := g_bd_ex h
    refine q_cvi (As := [.int 38]) cx mo_X11_takes mv_X11_takes z_cl11 rfl tb_406 (by omega) rfl (by decide) rfl rfl (Nat.le_of_ble_eq_true rfl) dX11_both_8 (c_X11_takes 38 _ e3) ?_
    refine q_ifb_eq (tgt := 36) cx (by decide) dX11_both_11 (fun c4 => ?_) (fun c4 => ?_)
    · have h := g_f (Bool.eq_false_iff.mp c4) h
      refine z_iload_n cx rfl rfl dX11_both_36 ?_
      obtain ⟨rfl, rfl⟩ := g_some h
      exact z_ireturn cx ce rfl ⟨rfl, rfl⟩ dX11_both_37
    · have h := g_t c4 h
      refine z_aload_n cx rfl rfl dX11_both_14 ?_
      obtain ⟨v5, S6, e7, h⟩ := g_bd_ex h
      refine q_cvi (As := []) cx mo_X11_compared mv_X11_compared z_cl11 rfl tb_415 (Nat.le_refl _) rfl (by decide) rfl rfl (Nat.le_of_ble_eq_true rfl) dX11_both_15 (hG.2.2.1  _ _ _ e7) ?_
      refine z_istore_n (L' := [some (.ref (z_ad g 48)), some (.int x1), some (.int v5)]) cx rfl (by decide) rfl dX11_both_18 ?_
      refine z_iload_n cx rfl rfl dX11_both_19 ?_
      refine z_if_eq (tgt := 31) cx (by decide) dX11_both_20 (fun c8 => ?_) (fun c8 => ?_)
      · have h := g_t c8 h
        exact q_weak (z_wk_s (z_wk_n (z_wk_n (z_wk_0)))) (t_X11_both_31 n G hG hb cx ce (f_X11_both_5 n G m) ih S6 h)
      · have h := g_f c8 h
        refine z_iload_n cx rfl rfl dX11_both_23 ?_
        refine z_if_eq (tgt := 31) cx (by decide) dX11_both_24 (fun c9 => ?_) (fun c9 => ?_)
        · have h := g_t c9 h
          exact q_weak (z_wk_s (z_wk_n (z_wk_n (z_wk_0)))) (t_X11_both_31 n G hG hb cx ce (f_X11_both_5 n G m) ih S6 h)
        · have h := g_f c9 h
          refine z_iconst (v := 1) cx (by decide +kernel) dX11_both_27 ?_
          refine z_goto (tgt := 32) cx (by decide) dX11_both_28 ?_
          exact q_weak (z_wk_s (z_wk_n (z_wk_n (z_wk_0)))) (t_X11_both_32 n G hG hb cx ce (f_X11_both_5 n G m) ih 1 S6 h)
def f_X11_both (n : Nat) (G : GT_X11_either) (S : z_Stt) : Option (Int32 × z_Stt) :=
  g_bd (G.2.2.1 S) fun v1 S2 =>
  f_X11_both_5 n G n v1 S2
set_option maxHeartbeats 4000000 in
set_option maxRecDepth 100000 in
theorem t_X11_both {g : z_G} {K : z_K} (n : Nat) (G : GT_X11_either) {d0 : Nat} (hG : HG_X11_either g G d0) (hb : 1 ≤ d0) {v : Int32} {S' : z_Stt} (cx : z_C g M_X11_both (d0 + 1) K) (ce : z_E' g M_X11_both (z_P g (some (.int v)) S') K) (S : z_Stt) (h : f_X11_both n G S = some (v, S')) : z_At g M_X11_both K 0 [some (.ref (z_ad g 48)), none, none] [] (hp g S) := by
  unfold f_X11_both at h
  refine z_aload_n cx rfl rfl dX11_both_0 ?_
  obtain ⟨v1, S2, e3, h⟩ := g_bd_ex h
  refine q_cvi (As := []) cx mo_X11_compared mv_X11_compared z_cl11 rfl tb_415 (Nat.le_refl _) rfl (by decide) rfl rfl (Nat.le_of_ble_eq_true rfl) dX11_both_1 (hG.2.2.1  _ _ _ e3) ?_
  refine z_istore_n (L' := [some (.ref (z_ad g 48)), some (.int v1), none]) cx rfl (by decide) rfl dX11_both_4 ?_
  exact q_weak (z_wk_s (z_wk_s (z_wk_n (z_wk_0)))) (t_X11_both_5 n G hG hb cx ce n v1 S2 h)
theorem c_X11_both {g : z_G} {n : Nat} {G : GT_X11_either} {d0 : Nat} (hG : HG_X11_either g G d0) (hb : 1 ≤ d0) (S : z_Stt) {v : Int32} {S' : z_Stt} (h : f_X11_both n G S = some (v, S')) : z_Ct g M_X11_both (d0 + 1) [.ref (z_ad g 48)] (hp g S) (z_P g (some (.int v)) S') :=
  z_Ct.of (by decide +kernel) rfl (Nat.le_of_ble_eq_true rfl) (fun K cx ce => q_weak (L' := [some (.ref (z_ad g 48)), none, none]) (z_wk_s (z_wk_e (z_wk_e (z_wk_0)))) (t_X11_both n G hG hb cx ce S h))
def f_X11_compared_37 (n : Nat) (G : GT_X11_either) (x1 : Int32) (x2 : Int32) (S : z_Stt) : Option (Int32 × z_Stt) :=
  g_let (sI S 4818 ((S.1 4818) + 1)) fun S1 =>
  g_bd (G.2.2.2.1 S1) fun v3 S4 =>
  if x2 = 60 then
    if v3 ≤ x1 then
      some (0, S4)
    else
      some (1, S4)
  else
    if x2 = 61 then
      if x1 = v3 then
        some (1, S4)
      else
        some (0, S4)
    else
      if x1 ≤ v3 then
        some (0, S4)
      else
        some (1, S4)
set_option maxHeartbeats 4000000 in
set_option maxRecDepth 100000 in
theorem t_X11_compared_37 {g : z_G} {K : z_K} (n : Nat) (G : GT_X11_either) {d0 : Nat} (hG : HG_X11_either g G d0) (hb : 1 ≤ d0) {v : Int32} {S' : z_Stt} (cx : z_C g M_X11_compared (d0 + 1) K) (ce : z_E' g M_X11_compared (z_P g (some (.int v)) S') K) (x1 : Int32) (x2 : Int32) (S : z_Stt) (h : f_X11_compared_37 n G x1 x2 S = some (v, S')) : z_At g M_X11_compared K 37 [some (.ref (z_ad g 48)), some (.int x1), some (.int x2), none] [] (hp g S) := by
  unfold f_X11_compared_37 at h
  refine z_aload_n cx rfl rfl dX11_compared_37 ?_
  refine z_dup cx rfl dX11_compared_38 ?_
  refine q_getI (k := 48) (n := 4818) cx z_cl11 (j := 18) (by decide) tb_396 rfl (by decide) rfl rfl rfl dX11_compared_39 ?_
  refine z_iconst (v := 1) cx (by decide +kernel) dX11_compared_42 ?_
  refine z_iadd cx dX11_compared_43 ?_
  refine q_putI (k := 48) (n := 4818) cx z_cl11 (j := 18) (by decide) tb_396 rfl rfl rfl (by decide) rfl rfl rfl (by decide) (by decide) dX11_compared_44 ?_
  obtain ⟨S1, e2, h⟩ := g_let_ex h
  rw [← e2]
  refine z_aload_n cx rfl rfl dX11_compared_47 ?_
  obtain ⟨v3, S4, e5, h⟩ := g_bd_ex h
  refine q_cvi (As := []) cx mo_X11_sums mv_X11_sums z_cl11 rfl tb_419 (Nat.le_refl _) rfl (by decide) rfl rfl (Nat.le_of_ble_eq_true rfl) dX11_compared_48 (hG.2.2.2.1  _ _ _ e5) ?_
  refine z_istore_n (L' := [some (.ref (z_ad g 48)), some (.int x1), some (.int x2), some (.int v3)]) cx rfl (by decide) rfl dX11_compared_51 ?_
  refine z_iload_n cx rfl rfl dX11_compared_52 ?_
  refine z_bipush (v := 60) cx (by decide +kernel) dX11_compared_53 ?_
  refine z_icmp_ne (tgt := 66) cx (by decide) dX11_compared_55 (fun c6 => ?_) (fun c6 => ?_)
  · have h := g_f c6 h
    refine z_iload_n cx rfl rfl dX11_compared_66 ?_
    refine z_bipush (v := 61) cx (by decide +kernel) dX11_compared_67 ?_
    refine z_icmp_ne (tgt := 80) cx (by decide) dX11_compared_69 (fun c7 => ?_) (fun c7 => ?_)
    · have h := g_f c7 h
      refine z_iload_n cx rfl rfl dX11_compared_80 ?_
      refine z_iload_n cx rfl rfl dX11_compared_81 ?_
      refine z_icmp_le (tgt := 89) cx (by decide) dX11_compared_82 (fun c8 => ?_) (fun c8 => ?_)
      · have h := g_t c8 h
        refine z_iconst (v := 0) cx (by decide +kernel) dX11_compared_89 ?_
        obtain ⟨rfl, rfl⟩ := g_some h
        exact z_ireturn cx ce rfl ⟨rfl, rfl⟩ dX11_compared_90
      · have h := g_f c8 h
        refine z_iconst (v := 1) cx (by decide +kernel) dX11_compared_85 ?_
        refine z_goto (tgt := 90) cx (by decide) dX11_compared_86 ?_
        obtain ⟨rfl, rfl⟩ := g_some h
        exact z_ireturn cx ce rfl ⟨rfl, rfl⟩ dX11_compared_90
    · have h := g_t c7 h
      refine z_iload_n cx rfl rfl dX11_compared_72 ?_
      refine z_iload_n cx rfl rfl dX11_compared_73 ?_
      refine z_icmp_ne (tgt := 89) cx (by decide) dX11_compared_74 (fun c9 => ?_) (fun c9 => ?_)
      · have h := g_f c9 h
        refine z_iconst (v := 0) cx (by decide +kernel) dX11_compared_89 ?_
        obtain ⟨rfl, rfl⟩ := g_some h
        exact z_ireturn cx ce rfl ⟨rfl, rfl⟩ dX11_compared_90
      · have h := g_t c9 h
        refine z_goto (tgt := 85) cx (by decide) dX11_compared_77 ?_
        refine z_iconst (v := 1) cx (by decide +kernel) dX11_compared_85 ?_
        refine z_goto (tgt := 90) cx (by decide) dX11_compared_86 ?_
        obtain ⟨rfl, rfl⟩ := g_some h
        exact z_ireturn cx ce rfl ⟨rfl, rfl⟩ dX11_compared_90
  · have h := g_t c6 h
    refine z_iload_n cx rfl rfl dX11_compared_58 ?_
    refine z_iload_n cx rfl rfl dX11_compared_59 ?_
    refine z_icmp_ge (tgt := 89) cx (by decide) dX11_compared_60 (fun c10 => ?_) (fun c10 => ?_)
    · have h := g_t c10 h
      refine z_iconst (v := 0) cx (by decide +kernel) dX11_compared_89 ?_
      obtain ⟨rfl, rfl⟩ := g_some h
      exact z_ireturn cx ce rfl ⟨rfl, rfl⟩ dX11_compared_90
    · have h := g_f c10 h
      refine z_goto (tgt := 85) cx (by decide) dX11_compared_63 ?_
      refine z_iconst (v := 1) cx (by decide +kernel) dX11_compared_85 ?_
      refine z_goto (tgt := 90) cx (by decide) dX11_compared_86 ?_
      obtain ⟨rfl, rfl⟩ := g_some h
      exact z_ireturn cx ce rfl ⟨rfl, rfl⟩ dX11_compared_90
def f_X11_compared (n : Nat) (G : GT_X11_either) (S : z_Stt) : Option (Int32 × z_Stt) :=
  g_bd (G.2.2.2.1 S) fun v1 S2 =>
  g_bd (f_X11_byteAt S2) fun v4 S5 =>
  if 0 ≤ S5.1 4820 then
    some (v1, S5)
  else
    if v4 = 60 then
      f_X11_compared_37 n G v1 v4 S5
    else
      if v4 = 61 then
        f_X11_compared_37 n G v1 v4 S5
      else
        if v4 = 62 then
          f_X11_compared_37 n G v1 v4 S5
        else
          some (v1, S5)
set_option maxHeartbeats 4000000 in
set_option maxRecDepth 100000 in
theorem t_X11_compared {g : z_G} {K : z_K} (n : Nat) (G : GT_X11_either) {d0 : Nat} (hG : HG_X11_either g G d0) (hb : 1 ≤ d0) {v : Int32} {S' : z_Stt} (cx : z_C g M_X11_compared (d0 + 1) K) (ce : z_E' g M_X11_compared (z_P g (some (.int v)) S') K) (S : z_Stt) (h : f_X11_compared n G S = some (v, S')) : z_At g M_X11_compared K 0 [some (.ref (z_ad g 48)), none, none, none] [] (hp g S) := by
  unfold f_X11_compared at h
  refine z_aload_n cx rfl rfl dX11_compared_0 ?_
  obtain ⟨v1, S2, e3, h⟩ := g_bd_ex h
  refine q_cvi (As := []) cx mo_X11_sums mv_X11_sums z_cl11 rfl tb_419 (Nat.le_refl _) rfl (by decide) rfl rfl (Nat.le_of_ble_eq_true rfl) dX11_compared_1 (hG.2.2.2.1  _ _ _ e3) ?_
  refine z_istore_n (L' := [some (.ref (z_ad g 48)), some (.int v1), none, none]) cx rfl (by decide) rfl dX11_compared_4 ?_
  refine z_aload_n cx rfl rfl dX11_compared_5 ?_
  obtain ⟨v4, S5, e6, h⟩ := g_bd_ex h
  refine q_cvi (As := []) cx mo_X11_byteAt mv_X11_byteAt z_cl11 rfl tb_410 (by omega) rfl (by decide) rfl rfl (Nat.le_of_ble_eq_true rfl) dX11_compared_6 (c_X11_byteAt  _ e6) ?_
  refine z_istore_n (L' := [some (.ref (z_ad g 48)), some (.int v1), some (.int v4), none]) cx rfl (by decide) rfl dX11_compared_9 ?_
  refine z_aload_n cx rfl rfl dX11_compared_10 ?_
  refine q_getI (k := 48) (n := 4820) cx z_cl11 (j := 20) (by decide) tb_390 rfl (by decide) rfl rfl rfl dX11_compared_11 ?_
  refine z_if_ge (tgt := 35) cx (by decide) dX11_compared_14 (fun c7 => ?_) (fun c7 => ?_)
  · have h := g_t c7 h
    refine z_iload_n cx rfl rfl dX11_compared_35 ?_
    obtain ⟨rfl, rfl⟩ := g_some h
    exact z_ireturn cx ce rfl ⟨rfl, rfl⟩ dX11_compared_36
  · have h := g_f c7 h
    refine z_iload_n cx rfl rfl dX11_compared_17 ?_
    refine z_bipush (v := 60) cx (by decide +kernel) dX11_compared_18 ?_
    refine z_icmp_eq (tgt := 37) cx (by decide) dX11_compared_20 (fun c8 => ?_) (fun c8 => ?_)
    · have h := g_t c8 h
      exact q_weak (z_wk_s (z_wk_s (z_wk_s (z_wk_n (z_wk_0))))) (t_X11_compared_37 n G hG hb cx ce v1 v4 S5 h)
    · have h := g_f c8 h
      refine z_iload_n cx rfl rfl dX11_compared_23 ?_
      refine z_bipush (v := 61) cx (by decide +kernel) dX11_compared_24 ?_
      refine z_icmp_eq (tgt := 37) cx (by decide) dX11_compared_26 (fun c9 => ?_) (fun c9 => ?_)
      · have h := g_t c9 h
        exact q_weak (z_wk_s (z_wk_s (z_wk_s (z_wk_n (z_wk_0))))) (t_X11_compared_37 n G hG hb cx ce v1 v4 S5 h)
      · have h := g_f c9 h
        refine z_iload_n cx rfl rfl dX11_compared_29 ?_
        refine z_bipush (v := 62) cx (by decide +kernel) dX11_compared_30 ?_
        refine z_icmp_eq (tgt := 37) cx (by decide) dX11_compared_32 (fun c10 => ?_) (fun c10 => ?_)
        · have h := g_t c10 h
          exact q_weak (z_wk_s (z_wk_s (z_wk_s (z_wk_n (z_wk_0))))) (t_X11_compared_37 n G hG hb cx ce v1 v4 S5 h)
        · have h := g_f c10 h
          refine z_iload_n cx rfl rfl dX11_compared_35 ?_
          obtain ⟨rfl, rfl⟩ := g_some h
          exact z_ireturn cx ce rfl ⟨rfl, rfl⟩ dX11_compared_36
theorem c_X11_compared {g : z_G} {n : Nat} {G : GT_X11_either} {d0 : Nat} (hG : HG_X11_either g G d0) (hb : 1 ≤ d0) (S : z_Stt) {v : Int32} {S' : z_Stt} (h : f_X11_compared n G S = some (v, S')) : z_Ct g M_X11_compared (d0 + 1) [.ref (z_ad g 48)] (hp g S) (z_P g (some (.int v)) S') :=
  z_Ct.of (by decide +kernel) rfl (Nat.le_of_ble_eq_true rfl) (fun K cx ce => q_weak (L' := [some (.ref (z_ad g 48)), none, none, none]) (z_wk_s (z_wk_e (z_wk_e (z_wk_e (z_wk_0))))) (t_X11_compared n G hG hb cx ce S h))
def f_X11_sums_73 (n : Nat) (G : GT_X11_either) (k5 : Int32 → z_Stt → Option (Int32 × z_Stt)) (y0 : Int32) (S : z_Stt) : Option (Int32 × z_Stt) :=
  k5 y0 S
set_option maxHeartbeats 4000000 in
set_option maxRecDepth 100000 in
theorem t_X11_sums_73 {g : z_G} {K : z_K} (n : Nat) (G : GT_X11_either) {d0 : Nat} (hG : HG_X11_either g G d0) (hb : 1 ≤ d0) {v : Int32} {S' : z_Stt} (cx : z_C g M_X11_sums (d0 + 1) K) (ce : z_E' g M_X11_sums (z_P g (some (.int v)) S') K) (k5 : Int32 → z_Stt → Option (Int32 × z_Stt)) (hk5 : ∀ (x1 : Int32) (S : z_Stt), k5 x1 S = some (v, S') → z_At g M_X11_sums K 5 [some (.ref (z_ad g 48)), some (.int x1), none, none] [] (hp g S)) (y0 : Int32) (S : z_Stt) (h : f_X11_sums_73 n G k5 y0 S = some (v, S')) : z_At g M_X11_sums K 73 [some (.ref (z_ad g 48)), none, none, none] [.int y0] (hp g S) := by
  unfold f_X11_sums_73 at h
  refine z_istore_n (L' := [some (.ref (z_ad g 48)), some (.int y0), none, none]) cx rfl (by decide) rfl dX11_sums_73 ?_
  refine z_goto (tgt := 5) cx (by decide) dX11_sums_74 ?_
  exact q_weak (z_wk_s (z_wk_s (z_wk_n (z_wk_n (z_wk_0))))) (hk5 y0 S h)
def f_X11_sums_44 (n : Nat) (G : GT_X11_either) (k5 : Int32 → z_Stt → Option (Int32 × z_Stt)) (x1 : Int32) (y0 : Int32) (S : z_Stt) : Option (Int32 × z_Stt) :=
  g_let (sI S 4818 ((S.1 4818) + 1)) fun S1 =>
  g_bd (G.2.2.2.2.1 S1) fun v3 S4 =>
  if y0 = 0 then
    f_X11_sums_73 n G k5 (x1 - v3) S4
  else
    f_X11_sums_73 n G k5 (x1 + v3) S4
set_option maxHeartbeats 4000000 in
set_option maxRecDepth 100000 in
theorem t_X11_sums_44 {g : z_G} {K : z_K} (n : Nat) (G : GT_X11_either) {d0 : Nat} (hG : HG_X11_either g G d0) (hb : 1 ≤ d0) {v : Int32} {S' : z_Stt} (cx : z_C g M_X11_sums (d0 + 1) K) (ce : z_E' g M_X11_sums (z_P g (some (.int v)) S') K) (k5 : Int32 → z_Stt → Option (Int32 × z_Stt)) (hk5 : ∀ (x1 : Int32) (S : z_Stt), k5 x1 S = some (v, S') → z_At g M_X11_sums K 5 [some (.ref (z_ad g 48)), some (.int x1), none, none] [] (hp g S)) (x1 : Int32) (y0 : Int32) (S : z_Stt) (h : f_X11_sums_44 n G k5 x1 y0 S = some (v, S')) : z_At g M_X11_sums K 44 [some (.ref (z_ad g 48)), some (.int x1), none, none] [.int y0] (hp g S) := by
  unfold f_X11_sums_44 at h
  refine z_istore_n (L' := [some (.ref (z_ad g 48)), some (.int x1), some (.int y0), none]) cx rfl (by decide) rfl dX11_sums_44 ?_
  refine z_aload_n cx rfl rfl dX11_sums_45 ?_
  refine z_dup cx rfl dX11_sums_46 ?_
  refine q_getI (k := 48) (n := 4818) cx z_cl11 (j := 18) (by decide) tb_396 rfl (by decide) rfl rfl rfl dX11_sums_47 ?_
  refine z_iconst (v := 1) cx (by decide +kernel) dX11_sums_50 ?_
  refine z_iadd cx dX11_sums_51 ?_
  refine q_putI (k := 48) (n := 4818) cx z_cl11 (j := 18) (by decide) tb_396 rfl rfl rfl (by decide) rfl rfl rfl (by decide) (by decide) dX11_sums_52 ?_
  obtain ⟨S1, e2, h⟩ := g_let_ex h
  rw [← e2]
  refine z_aload_n cx rfl rfl dX11_sums_55 ?_
  obtain ⟨v3, S4, e5, h⟩ := g_bd_ex h
  refine q_cvi (As := []) cx mo_X11_product mv_X11_product z_cl11 rfl tb_435 (Nat.le_refl _) rfl (by decide) rfl rfl (Nat.le_of_ble_eq_true rfl) dX11_sums_56 (hG.2.2.2.2.1  _ _ _ e5) ?_
  refine z_istore_n (L' := [some (.ref (z_ad g 48)), some (.int x1), some (.int y0), some (.int v3)]) cx rfl (by decide) rfl dX11_sums_59 ?_
  refine z_iload_n cx rfl rfl dX11_sums_60 ?_
  refine z_if_eq (tgt := 70) cx (by decide) dX11_sums_61 (fun c6 => ?_) (fun c6 => ?_)
  · have h := g_t c6 h
    refine z_iload_n cx rfl rfl dX11_sums_70 ?_
    refine z_iload_n cx rfl rfl dX11_sums_71 ?_
    refine z_isub cx dX11_sums_72 ?_
    exact q_weak (z_wk_s (z_wk_n (z_wk_n (z_wk_n (z_wk_0))))) (t_X11_sums_73 n G hG hb cx ce k5 hk5 (x1 - v3) S4 h)
  · have h := g_f c6 h
    refine z_iload_n cx rfl rfl dX11_sums_64 ?_
    refine z_iload_n cx rfl rfl dX11_sums_65 ?_
    refine z_iadd cx dX11_sums_66 ?_
    refine z_goto (tgt := 73) cx (by decide) dX11_sums_67 ?_
    exact q_weak (z_wk_s (z_wk_n (z_wk_n (z_wk_n (z_wk_0))))) (t_X11_sums_73 n G hG hb cx ce k5 hk5 (x1 + v3) S4 h)
def f_X11_sums_30 (n : Nat) (G : GT_X11_either) (k5 : Int32 → z_Stt → Option (Int32 × z_Stt)) (x1 : Int32) (S : z_Stt) : Option (Int32 × z_Stt) :=
  g_bd (f_X11_byteAt S) fun v1 S2 =>
  if v1 = 43 then
    f_X11_sums_44 n G k5 x1 1 S2
  else
    f_X11_sums_44 n G k5 x1 0 S2
set_option maxHeartbeats 4000000 in
set_option maxRecDepth 100000 in
theorem t_X11_sums_30 {g : z_G} {K : z_K} (n : Nat) (G : GT_X11_either) {d0 : Nat} (hG : HG_X11_either g G d0) (hb : 1 ≤ d0) {v : Int32} {S' : z_Stt} (cx : z_C g M_X11_sums (d0 + 1) K) (ce : z_E' g M_X11_sums (z_P g (some (.int v)) S') K) (k5 : Int32 → z_Stt → Option (Int32 × z_Stt)) (hk5 : ∀ (x1 : Int32) (S : z_Stt), k5 x1 S = some (v, S') → z_At g M_X11_sums K 5 [some (.ref (z_ad g 48)), some (.int x1), none, none] [] (hp g S)) (x1 : Int32) (S : z_Stt) (h : f_X11_sums_30 n G k5 x1 S = some (v, S')) : z_At g M_X11_sums K 30 [some (.ref (z_ad g 48)), some (.int x1), none, none] [] (hp g S) := by
  unfold f_X11_sums_30 at h
  refine z_aload_n cx rfl rfl dX11_sums_30 ?_
  obtain ⟨v1, S2, e3, h⟩ := g_bd_ex h
  refine q_cvi (As := []) cx mo_X11_byteAt mv_X11_byteAt z_cl11 rfl tb_410 (by omega) rfl (by decide) rfl rfl (Nat.le_of_ble_eq_true rfl) dX11_sums_31 (c_X11_byteAt  _ e3) ?_
  refine z_bipush (v := 43) cx (by decide +kernel) dX11_sums_34 ?_
  refine z_icmp_ne (tgt := 43) cx (by decide) dX11_sums_36 (fun c4 => ?_) (fun c4 => ?_)
  · have h := g_f c4 h
    refine z_iconst (v := 0) cx (by decide +kernel) dX11_sums_43 ?_
    exact q_weak (z_wk_s (z_wk_s (z_wk_n (z_wk_n (z_wk_0))))) (t_X11_sums_44 n G hG hb cx ce k5 hk5 x1 0 S2 h)
  · have h := g_t c4 h
    refine z_iconst (v := 1) cx (by decide +kernel) dX11_sums_39 ?_
    refine z_goto (tgt := 44) cx (by decide) dX11_sums_40 ?_
    exact q_weak (z_wk_s (z_wk_s (z_wk_n (z_wk_n (z_wk_0))))) (t_X11_sums_44 n G hG hb cx ce k5 hk5 x1 1 S2 h)
def f_X11_sums_5 (n : Nat) (G : GT_X11_either) : Nat → Int32 → z_Stt → Option (Int32 × z_Stt)
  | 0, _, _ => none
  | m + 1, x1, S =>
    if 0 ≤ S.1 4820 then
      some (x1, S)
    else
      g_bd (f_X11_byteAt S) fun v2 S3 =>
      if v2 = 43 then
        f_X11_sums_30 n G (f_X11_sums_5 n G m) x1 S3
      else
        g_bd (f_X11_byteAt S3) fun v6 S7 =>
        if v6 = 45 then
          f_X11_sums_30 n G (f_X11_sums_5 n G m) x1 S7
        else
          some (x1, S7)
set_option maxHeartbeats 4000000 in
set_option maxRecDepth 100000 in
theorem t_X11_sums_5 {g : z_G} {K : z_K} (n : Nat) (G : GT_X11_either) {d0 : Nat} (hG : HG_X11_either g G d0) (hb : 1 ≤ d0) {v : Int32} {S' : z_Stt} (cx : z_C g M_X11_sums (d0 + 1) K) (ce : z_E' g M_X11_sums (z_P g (some (.int v)) S') K) : ∀ (m : Nat) (x1 : Int32) (S : z_Stt) (h : f_X11_sums_5 n G m x1 S = some (v, S')), z_At g M_X11_sums K 5 [some (.ref (z_ad g 48)), some (.int x1), none, none] [] (hp g S) := by
  intro m
  induction m with
  | zero => intro x1 S h; simp [f_X11_sums_5] at h
  | succ m ih =>
    intro x1 S h
    rw [f_X11_sums_5] at h
    refine z_aload_n cx rfl rfl dX11_sums_5 ?_
    refine q_getI (k := 48) (n := 4820) cx z_cl11 (j := 20) (by decide) tb_390 rfl (by decide) rfl rfl rfl dX11_sums_6 ?_
    refine z_if_ge (tgt := 77) cx (by decide) dX11_sums_9 (fun c1 => ?_) (fun c1 => ?_)
    · have h := g_t c1 h
      refine z_iload_n cx rfl rfl dX11_sums_77 ?_
      obtain ⟨rfl, rfl⟩ := g_some h
      exact z_ireturn cx ce rfl ⟨rfl, rfl⟩ dX11_sums_78
    · have h := g_f c1 h
      refine z_aload_n cx rfl rfl dX11_sums_12 ?_
      obtain ⟨v2, S3, e4, h⟩ := g_bd_ex h
      refine q_cvi (As := []) cx mo_X11_byteAt mv_X11_byteAt z_cl11 rfl tb_410 (by omega) rfl (by decide) rfl rfl (Nat.le_of_ble_eq_true rfl) dX11_sums_13 (c_X11_byteAt  _ e4) ?_
      refine z_bipush (v := 43) cx (by decide +kernel) dX11_sums_16 ?_
      refine z_icmp_eq (tgt := 30) cx (by decide) dX11_sums_18 (fun c5 => ?_) (fun c5 => ?_)
      · have h := g_t c5 h
        exact q_weak (z_wk_s (z_wk_s (z_wk_n (z_wk_n (z_wk_0))))) (t_X11_sums_30 n G hG hb cx ce (f_X11_sums_5 n G m) ih x1 S3 h)
      · have h := g_f c5 h
        refine z_aload_n cx rfl rfl dX11_sums_21 ?_
        obtain ⟨v6, S7, e8, h⟩ := g_bd_ex h
        refine q_cvi (As := []) cx mo_X11_byteAt mv_X11_byteAt z_cl11 rfl tb_410 (by omega) rfl (by decide) rfl rfl (Nat.le_of_ble_eq_true rfl) dX11_sums_22 (c_X11_byteAt  _ e8) ?_
        refine z_bipush (v := 45) cx (by decide +kernel) dX11_sums_25 ?_
        refine z_icmp_ne (tgt := 77) cx (by decide) dX11_sums_27 (fun c9 => ?_) (fun c9 => ?_)
        · have h := g_f c9 h
          refine z_iload_n cx rfl rfl dX11_sums_77 ?_
          obtain ⟨rfl, rfl⟩ := g_some h
          exact z_ireturn cx ce rfl ⟨rfl, rfl⟩ dX11_sums_78
        · have h := g_t c9 h
          exact q_weak (z_wk_s (z_wk_s (z_wk_n (z_wk_n (z_wk_0))))) (t_X11_sums_30 n G hG hb cx ce (f_X11_sums_5 n G m) ih x1 S7 h)
def f_X11_sums (n : Nat) (G : GT_X11_either) (S : z_Stt) : Option (Int32 × z_Stt) :=
  g_bd (G.2.2.2.2.1 S) fun v1 S2 =>
  f_X11_sums_5 n G n v1 S2
set_option maxHeartbeats 4000000 in
set_option maxRecDepth 100000 in
theorem t_X11_sums {g : z_G} {K : z_K} (n : Nat) (G : GT_X11_either) {d0 : Nat} (hG : HG_X11_either g G d0) (hb : 1 ≤ d0) {v : Int32} {S' : z_Stt} (cx : z_C g M_X11_sums (d0 + 1) K) (ce : z_E' g M_X11_sums (z_P g (some (.int v)) S') K) (S : z_Stt) (h : f_X11_sums n G S = some (v, S')) : z_At g M_X11_sums K 0 [some (.ref (z_ad g 48)), none, none, none] [] (hp g S) := by
  unfold f_X11_sums at h
  refine z_aload_n cx rfl rfl dX11_sums_0 ?_
  obtain ⟨v1, S2, e3, h⟩ := g_bd_ex h
  refine q_cvi (As := []) cx mo_X11_product mv_X11_product z_cl11 rfl tb_435 (Nat.le_refl _) rfl (by decide) rfl rfl (Nat.le_of_ble_eq_true rfl) dX11_sums_1 (hG.2.2.2.2.1  _ _ _ e3) ?_
  refine z_istore_n (L' := [some (.ref (z_ad g 48)), some (.int v1), none, none]) cx rfl (by decide) rfl dX11_sums_4 ?_
  exact q_weak (z_wk_s (z_wk_s (z_wk_n (z_wk_n (z_wk_0))))) (t_X11_sums_5 n G hG hb cx ce n v1 S2 h)
theorem c_X11_sums {g : z_G} {n : Nat} {G : GT_X11_either} {d0 : Nat} (hG : HG_X11_either g G d0) (hb : 1 ≤ d0) (S : z_Stt) {v : Int32} {S' : z_Stt} (h : f_X11_sums n G S = some (v, S')) : z_Ct g M_X11_sums (d0 + 1) [.ref (z_ad g 48)] (hp g S) (z_P g (some (.int v)) S') :=
  z_Ct.of (by decide +kernel) rfl (Nat.le_of_ble_eq_true rfl) (fun K cx ce => q_weak (L' := [some (.ref (z_ad g 48)), none, none, none]) (z_wk_s (z_wk_e (z_wk_e (z_wk_e (z_wk_0))))) (t_X11_sums n G hG hb cx ce S h))
def f_X11_product_85 (n : Nat) (G : GT_X11_either) (k10 : Int32 → Int32 → z_Stt → Option (Int32 × z_Stt)) (y0 : Int32) (S : z_Stt) : Option (Int32 × z_Stt) :=
  g_bd (f_X11_byteAt S) fun v1 S2 =>
  k10 y0 v1 S2
set_option maxHeartbeats 4000000 in
set_option maxRecDepth 100000 in
theorem t_X11_product_85 {g : z_G} {K : z_K} (n : Nat) (G : GT_X11_either) {d0 : Nat} (hG : HG_X11_either g G d0) (hb : 1 ≤ d0) {v : Int32} {S' : z_Stt} (cx : z_C g M_X11_product (d0 + 1) K) (ce : z_E' g M_X11_product (z_P g (some (.int v)) S') K) (k10 : Int32 → Int32 → z_Stt → Option (Int32 × z_Stt)) (hk10 : ∀ (x1 : Int32) (x2 : Int32) (S : z_Stt), k10 x1 x2 S = some (v, S') → z_At g M_X11_product K 10 [some (.ref (z_ad g 48)), some (.int x1), some (.int x2), none] [] (hp g S)) (y0 : Int32) (S : z_Stt) (h : f_X11_product_85 n G k10 y0 S = some (v, S')) : z_At g M_X11_product K 85 [some (.ref (z_ad g 48)), none, none, none] [.int y0] (hp g S) := by
  unfold f_X11_product_85 at h
  refine z_istore_n (L' := [some (.ref (z_ad g 48)), some (.int y0), none, none]) cx rfl (by decide) rfl dX11_product_85 ?_
  refine z_aload_n cx rfl rfl dX11_product_86 ?_
  obtain ⟨v1, S2, e3, h⟩ := g_bd_ex h
  refine q_cvi (As := []) cx mo_X11_byteAt mv_X11_byteAt z_cl11 rfl tb_410 (by omega) rfl (by decide) rfl rfl (Nat.le_of_ble_eq_true rfl) dX11_product_87 (c_X11_byteAt  _ e3) ?_
  refine z_istore_n (L' := [some (.ref (z_ad g 48)), some (.int y0), some (.int v1), none]) cx rfl (by decide) rfl dX11_product_90 ?_
  refine z_goto (tgt := 10) cx (by decide) dX11_product_91 ?_
  exact q_weak (z_wk_s (z_wk_s (z_wk_s (z_wk_n (z_wk_0))))) (hk10 y0 v1 S2 h)
def f_X11_product_35 (n : Nat) (G : GT_X11_either) (k10 : Int32 → Int32 → z_Stt → Option (Int32 × z_Stt)) (x1 : Int32) (x2 : Int32) (S : z_Stt) : Option (Int32 × z_Stt) :=
  g_let (sI S 4818 ((S.1 4818) + 1)) fun S1 =>
  g_bd (G.2.2.2.2.2 S1) fun v3 S4 =>
  if x2 = 42 then
    f_X11_product_85 n G k10 (x1 * v3) S4
  else
    if v3 = 0 then
      f_X11_product_85 n G k10 0 S4
    else
      if x2 = 47 then
        if ¬ v3 = 0 then
          f_X11_product_85 n G k10 (x1 / v3) S4
        else none
      else
        if ¬ v3 = 0 then
          f_X11_product_85 n G k10 (x1 % v3) S4
        else none
set_option maxHeartbeats 4000000 in
set_option maxRecDepth 100000 in
theorem t_X11_product_35 {g : z_G} {K : z_K} (n : Nat) (G : GT_X11_either) {d0 : Nat} (hG : HG_X11_either g G d0) (hb : 1 ≤ d0) {v : Int32} {S' : z_Stt} (cx : z_C g M_X11_product (d0 + 1) K) (ce : z_E' g M_X11_product (z_P g (some (.int v)) S') K) (k10 : Int32 → Int32 → z_Stt → Option (Int32 × z_Stt)) (hk10 : ∀ (x1 : Int32) (x2 : Int32) (S : z_Stt), k10 x1 x2 S = some (v, S') → z_At g M_X11_product K 10 [some (.ref (z_ad g 48)), some (.int x1), some (.int x2), none] [] (hp g S)) (x1 : Int32) (x2 : Int32) (S : z_Stt) (h : f_X11_product_35 n G k10 x1 x2 S = some (v, S')) : z_At g M_X11_product K 35 [some (.ref (z_ad g 48)), some (.int x1), some (.int x2), none] [] (hp g S) := by
  unfold f_X11_product_35 at h
  refine z_aload_n cx rfl rfl dX11_product_35 ?_
  refine z_dup cx rfl dX11_product_36 ?_
  refine q_getI (k := 48) (n := 4818) cx z_cl11 (j := 18) (by decide) tb_396 rfl (by decide) rfl rfl rfl dX11_product_37 ?_
  refine z_iconst (v := 1) cx (by decide +kernel) dX11_product_40 ?_
  refine z_iadd cx dX11_product_41 ?_
  refine q_putI (k := 48) (n := 4818) cx z_cl11 (j := 18) (by decide) tb_396 rfl rfl rfl (by decide) rfl rfl rfl (by decide) (by decide) dX11_product_42 ?_
  obtain ⟨S1, e2, h⟩ := g_let_ex h
  rw [← e2]
  refine z_aload_n cx rfl rfl dX11_product_45 ?_
  obtain ⟨v3, S4, e5, h⟩ := g_bd_ex h
  refine q_cvi (As := []) cx mo_X11_one mv_X11_one z_cl11 rfl tb_427 (Nat.le_refl _) rfl (by decide) rfl rfl (Nat.le_of_ble_eq_true rfl) dX11_product_46 (hG.2.2.2.2.2  _ _ _ e5) ?_
  refine z_istore_n (L' := [some (.ref (z_ad g 48)), some (.int x1), some (.int x2), some (.int v3)]) cx rfl (by decide) rfl dX11_product_49 ?_
  refine z_iload_n cx rfl rfl dX11_product_50 ?_
  refine z_bipush (v := 42) cx (by decide +kernel) dX11_product_51 ?_
  refine z_icmp_ne (tgt := 62) cx (by decide) dX11_product_53 (fun c6 => ?_) (fun c6 => ?_)
  · have h := g_f c6 h
    refine z_iload_n cx rfl rfl dX11_product_62 ?_
    refine z_if_ne (tgt := 70) cx (by decide) dX11_product_63 (fun c7 => ?_) (fun c7 => ?_)
    · have h := g_f c7 h
      refine z_iload_n cx rfl rfl dX11_product_70 ?_
      refine z_bipush (v := 47) cx (by decide +kernel) dX11_product_71 ?_
      refine z_icmp_ne (tgt := 82) cx (by decide) dX11_product_73 (fun c8 => ?_) (fun c8 => ?_)
      · have h := g_f c8 h
        refine z_iload_n cx rfl rfl dX11_product_82 ?_
        refine z_iload_n cx rfl rfl dX11_product_83 ?_
        obtain ⟨c9, h⟩ := g_if h
        refine z_irem cx c9 dX11_product_84 ?_
        exact q_weak (z_wk_s (z_wk_n (z_wk_n (z_wk_n (z_wk_0))))) (t_X11_product_85 n G hG hb cx ce k10 hk10 (x1 % v3) S4 h)
      · have h := g_t c8 h
        refine z_iload_n cx rfl rfl dX11_product_76 ?_
        refine z_iload_n cx rfl rfl dX11_product_77 ?_
        obtain ⟨c10, h⟩ := g_if h
        refine z_idiv cx c10 dX11_product_78 ?_
        refine z_goto (tgt := 85) cx (by decide) dX11_product_79 ?_
        exact q_weak (z_wk_s (z_wk_n (z_wk_n (z_wk_n (z_wk_0))))) (t_X11_product_85 n G hG hb cx ce k10 hk10 (x1 / v3) S4 h)
    · have h := g_t c7 h
      refine z_iconst (v := 0) cx (by decide +kernel) dX11_product_66 ?_
      refine z_goto (tgt := 85) cx (by decide) dX11_product_67 ?_
      exact q_weak (z_wk_s (z_wk_n (z_wk_n (z_wk_n (z_wk_0))))) (t_X11_product_85 n G hG hb cx ce k10 hk10 0 S4 h)
  · have h := g_t c6 h
    refine z_iload_n cx rfl rfl dX11_product_56 ?_
    refine z_iload_n cx rfl rfl dX11_product_57 ?_
    refine z_imul cx dX11_product_58 ?_
    refine z_goto (tgt := 85) cx (by decide) dX11_product_59 ?_
    exact q_weak (z_wk_s (z_wk_n (z_wk_n (z_wk_n (z_wk_0))))) (t_X11_product_85 n G hG hb cx ce k10 hk10 (x1 * v3) S4 h)
def f_X11_product_10 (n : Nat) (G : GT_X11_either) : Nat → Int32 → Int32 → z_Stt → Option (Int32 × z_Stt)
  | 0, _, _, _ => none
  | m + 1, x1, x2, S =>
    if 0 ≤ S.1 4820 then
      some (x1, S)
    else
      if x2 = 42 then
        f_X11_product_35 n G (f_X11_product_10 n G m) x1 x2 S
      else
        if x2 = 47 then
          f_X11_product_35 n G (f_X11_product_10 n G m) x1 x2 S
        else
          if x2 = 37 then
            f_X11_product_35 n G (f_X11_product_10 n G m) x1 x2 S
          else
            some (x1, S)
set_option maxHeartbeats 4000000 in
set_option maxRecDepth 100000 in
theorem t_X11_product_10 {g : z_G} {K : z_K} (n : Nat) (G : GT_X11_either) {d0 : Nat} (hG : HG_X11_either g G d0) (hb : 1 ≤ d0) {v : Int32} {S' : z_Stt} (cx : z_C g M_X11_product (d0 + 1) K) (ce : z_E' g M_X11_product (z_P g (some (.int v)) S') K) : ∀ (m : Nat) (x1 : Int32) (x2 : Int32) (S : z_Stt) (h : f_X11_product_10 n G m x1 x2 S = some (v, S')), z_At g M_X11_product K 10 [some (.ref (z_ad g 48)), some (.int x1), some (.int x2), none] [] (hp g S) := by
  intro m
  induction m with
  | zero => intro x1 x2 S h; simp [f_X11_product_10] at h
  | succ m ih =>
    intro x1 x2 S h
    rw [f_X11_product_10] at h
    refine z_aload_n cx rfl rfl dX11_product_10 ?_
    refine q_getI (k := 48) (n := 4820) cx z_cl11 (j := 20) (by decide) tb_390 rfl (by decide) rfl rfl rfl dX11_product_11 ?_
    refine z_if_ge (tgt := 94) cx (by decide) dX11_product_14 (fun c1 => ?_) (fun c1 => ?_)
    · have h := g_t c1 h
      refine z_iload_n cx rfl rfl dX11_product_94 ?_
      obtain ⟨rfl, rfl⟩ := g_some h
      exact z_ireturn cx ce rfl ⟨rfl, rfl⟩ dX11_product_95
    · have h := g_f c1 h
      refine z_iload_n cx rfl rfl dX11_product_17 ?_
      refine z_bipush (v := 42) cx (by decide +kernel) dX11_product_18 ?_
      refine z_icmp_eq (tgt := 35) cx (by decide) dX11_product_20 (fun c2 => ?_) (fun c2 => ?_)
      · have h := g_t c2 h
        exact q_weak (z_wk_s (z_wk_s (z_wk_s (z_wk_n (z_wk_0))))) (t_X11_product_35 n G hG hb cx ce (f_X11_product_10 n G m) ih x1 x2 S h)
      · have h := g_f c2 h
        refine z_iload_n cx rfl rfl dX11_product_23 ?_
        refine z_bipush (v := 47) cx (by decide +kernel) dX11_product_24 ?_
        refine z_icmp_eq (tgt := 35) cx (by decide) dX11_product_26 (fun c3 => ?_) (fun c3 => ?_)
        · have h := g_t c3 h
          exact q_weak (z_wk_s (z_wk_s (z_wk_s (z_wk_n (z_wk_0))))) (t_X11_product_35 n G hG hb cx ce (f_X11_product_10 n G m) ih x1 x2 S h)
        · have h := g_f c3 h
          refine z_iload_n cx rfl rfl dX11_product_29 ?_
          refine z_bipush (v := 37) cx (by decide +kernel) dX11_product_30 ?_
          refine z_icmp_ne (tgt := 94) cx (by decide) dX11_product_32 (fun c4 => ?_) (fun c4 => ?_)
          · have h := g_f c4 h
            refine z_iload_n cx rfl rfl dX11_product_94 ?_
            obtain ⟨rfl, rfl⟩ := g_some h
            exact z_ireturn cx ce rfl ⟨rfl, rfl⟩ dX11_product_95
          · have h := g_t c4 h
            exact q_weak (z_wk_s (z_wk_s (z_wk_s (z_wk_n (z_wk_0))))) (t_X11_product_35 n G hG hb cx ce (f_X11_product_10 n G m) ih x1 x2 S h)
def f_X11_product (n : Nat) (G : GT_X11_either) (S : z_Stt) : Option (Int32 × z_Stt) :=
  g_bd (G.2.2.2.2.2 S) fun v1 S2 =>
  g_bd (f_X11_byteAt S2) fun v4 S5 =>
  f_X11_product_10 n G n v1 v4 S5
set_option maxHeartbeats 4000000 in
set_option maxRecDepth 100000 in
theorem t_X11_product {g : z_G} {K : z_K} (n : Nat) (G : GT_X11_either) {d0 : Nat} (hG : HG_X11_either g G d0) (hb : 1 ≤ d0) {v : Int32} {S' : z_Stt} (cx : z_C g M_X11_product (d0 + 1) K) (ce : z_E' g M_X11_product (z_P g (some (.int v)) S') K) (S : z_Stt) (h : f_X11_product n G S = some (v, S')) : z_At g M_X11_product K 0 [some (.ref (z_ad g 48)), none, none, none] [] (hp g S) := by
  unfold f_X11_product at h
  refine z_aload_n cx rfl rfl dX11_product_0 ?_
  obtain ⟨v1, S2, e3, h⟩ := g_bd_ex h
  refine q_cvi (As := []) cx mo_X11_one mv_X11_one z_cl11 rfl tb_427 (Nat.le_refl _) rfl (by decide) rfl rfl (Nat.le_of_ble_eq_true rfl) dX11_product_1 (hG.2.2.2.2.2  _ _ _ e3) ?_
  refine z_istore_n (L' := [some (.ref (z_ad g 48)), some (.int v1), none, none]) cx rfl (by decide) rfl dX11_product_4 ?_
  refine z_aload_n cx rfl rfl dX11_product_5 ?_
  obtain ⟨v4, S5, e6, h⟩ := g_bd_ex h
  refine q_cvi (As := []) cx mo_X11_byteAt mv_X11_byteAt z_cl11 rfl tb_410 (by omega) rfl (by decide) rfl rfl (Nat.le_of_ble_eq_true rfl) dX11_product_6 (c_X11_byteAt  _ e6) ?_
  refine z_istore_n (L' := [some (.ref (z_ad g 48)), some (.int v1), some (.int v4), none]) cx rfl (by decide) rfl dX11_product_9 ?_
  exact q_weak (z_wk_s (z_wk_s (z_wk_s (z_wk_n (z_wk_0))))) (t_X11_product_10 n G hG hb cx ce n v1 v4 S5 h)
theorem c_X11_product {g : z_G} {n : Nat} {G : GT_X11_either} {d0 : Nat} (hG : HG_X11_either g G d0) (hb : 1 ≤ d0) (S : z_Stt) {v : Int32} {S' : z_Stt} (h : f_X11_product n G S = some (v, S')) : z_Ct g M_X11_product (d0 + 1) [.ref (z_ad g 48)] (hp g S) (z_P g (some (.int v)) S') :=
  z_Ct.of (by decide +kernel) rfl (Nat.le_of_ble_eq_true rfl) (fun K cx ce => q_weak (L' := [some (.ref (z_ad g 48)), none, none, none]) (z_wk_s (z_wk_e (z_wk_e (z_wk_e (z_wk_0))))) (t_X11_product n G hG hb cx ce S h))
def f_X11_one_104 (n : Nat) (G : GT_X11_either) (x1 : Int32) (x2 : Int32) (S : z_Stt) : Option (Int32 × z_Stt) :=
  g_let (sI S 4821 ((S.1 4821) - 1)) fun S1 =>
  if x1 = 40 then
    some (x2, S1)
  else
    if x1 = 45 then
      some (-x2, S1)
    else
      if x2 = 0 then
        some (1, S1)
      else
        some (0, S1)
set_option maxHeartbeats 4000000 in
set_option maxRecDepth 100000 in
theorem t_X11_one_104 {g : z_G} {K : z_K} (n : Nat) (G : GT_X11_either) {d0 : Nat} (hG : HG_X11_either g G d0) (hb : 1 ≤ d0) {v : Int32} {S' : z_Stt} (cx : z_C g M_X11_one (d0 + 1) K) (ce : z_E' g M_X11_one (z_P g (some (.int v)) S') K) (x1 : Int32) (x2 : Int32) (S : z_Stt) (h : f_X11_one_104 n G x1 x2 S = some (v, S')) : z_At g M_X11_one K 104 [some (.ref (z_ad g 48)), some (.int x1), some (.int x2), none, none] [] (hp g S) := by
  unfold f_X11_one_104 at h
  refine z_aload_n cx rfl rfl dX11_one_104 ?_
  refine z_dup cx rfl dX11_one_105 ?_
  refine q_getI (k := 48) (n := 4821) cx z_cl11 (j := 21) (by decide) tb_398 rfl (by decide) rfl rfl rfl dX11_one_106 ?_
  refine z_iconst (v := 1) cx (by decide +kernel) dX11_one_109 ?_
  refine z_isub cx dX11_one_110 ?_
  refine q_putI (k := 48) (n := 4821) cx z_cl11 (j := 21) (by decide) tb_398 rfl rfl rfl (by decide) rfl rfl rfl (by decide) (by decide) dX11_one_111 ?_
  obtain ⟨S1, e2, h⟩ := g_let_ex h
  rw [← e2]
  refine z_iload_n cx rfl rfl dX11_one_114 ?_
  refine z_bipush (v := 40) cx (by decide +kernel) dX11_one_115 ?_
  refine z_icmp_ne (tgt := 124) cx (by decide) dX11_one_117 (fun c3 => ?_) (fun c3 => ?_)
  · have h := g_f c3 h
    refine z_iload_n cx rfl rfl dX11_one_124 ?_
    refine z_bipush (v := 45) cx (by decide +kernel) dX11_one_125 ?_
    refine z_icmp_ne (tgt := 135) cx (by decide) dX11_one_127 (fun c4 => ?_) (fun c4 => ?_)
    · have h := g_f c4 h
      refine z_iload_n cx rfl rfl dX11_one_135 ?_
      refine z_if_ne (tgt := 143) cx (by decide) dX11_one_136 (fun c5 => ?_) (fun c5 => ?_)
      · have h := g_f c5 h
        refine z_iconst (v := 0) cx (by decide +kernel) dX11_one_143 ?_
        obtain ⟨rfl, rfl⟩ := g_some h
        exact z_ireturn cx ce rfl ⟨rfl, rfl⟩ dX11_one_144
      · have h := g_t c5 h
        refine z_iconst (v := 1) cx (by decide +kernel) dX11_one_139 ?_
        refine z_goto (tgt := 144) cx (by decide) dX11_one_140 ?_
        obtain ⟨rfl, rfl⟩ := g_some h
        exact z_ireturn cx ce rfl ⟨rfl, rfl⟩ dX11_one_144
    · have h := g_t c4 h
      refine z_iload_n cx rfl rfl dX11_one_130 ?_
      refine z_ineg cx dX11_one_131 ?_
      refine z_goto (tgt := 144) cx (by decide) dX11_one_132 ?_
      obtain ⟨rfl, rfl⟩ := g_some h
      exact z_ireturn cx ce rfl ⟨rfl, rfl⟩ dX11_one_144
  · have h := g_t c3 h
    refine z_iload_n cx rfl rfl dX11_one_120 ?_
    refine z_goto (tgt := 144) cx (by decide) dX11_one_121 ?_
    obtain ⟨rfl, rfl⟩ := g_some h
    exact z_ireturn cx ce rfl ⟨rfl, rfl⟩ dX11_one_144
def f_X11_one_83 (n : Nat) (G : GT_X11_either) (x1 : Int32) (y0 : Int32) (S : z_Stt) : Option (Int32 × z_Stt) :=
  if x1 = 40 then
    g_bd (f_X11_takes 41 S) fun v2 S3 =>
    if v2 = true then
      f_X11_one_104 n G x1 y0 S3
    else
      g_bd (f_X11_wrong S3) fun v6 S7 =>
      some (v6, S7)
  else
    f_X11_one_104 n G x1 y0 S
set_option maxHeartbeats 4000000 in
set_option maxRecDepth 100000 in
theorem t_X11_one_83 {g : z_G} {K : z_K} (n : Nat) (G : GT_X11_either) {d0 : Nat} (hG : HG_X11_either g G d0) (hb : 1 ≤ d0) {v : Int32} {S' : z_Stt} (cx : z_C g M_X11_one (d0 + 1) K) (ce : z_E' g M_X11_one (z_P g (some (.int v)) S') K) (x1 : Int32) (y0 : Int32) (S : z_Stt) (h : f_X11_one_83 n G x1 y0 S = some (v, S')) : z_At g M_X11_one K 83 [some (.ref (z_ad g 48)), some (.int x1), none, none, none] [.int y0] (hp g S) := by
  unfold f_X11_one_83 at h
  refine z_istore_n (L' := [some (.ref (z_ad g 48)), some (.int x1), some (.int y0), none, none]) cx rfl (by decide) rfl dX11_one_83 ?_
  refine z_iload_n cx rfl rfl dX11_one_84 ?_
  refine z_bipush (v := 40) cx (by decide +kernel) dX11_one_85 ?_
  refine z_icmp_ne (tgt := 104) cx (by decide) dX11_one_87 (fun c1 => ?_) (fun c1 => ?_)
  · have h := g_f c1 h
    exact q_weak (z_wk_s (z_wk_s (z_wk_s (z_wk_n (z_wk_n (z_wk_0)))))) (t_X11_one_104 n G hG hb cx ce x1 y0 S h)
  · have h := g_t c1 h
    refine z_aload_n cx rfl rfl dX11_one_90 ?_
    refine z_bipush (v := 41) cx (by decide +kernel) dX11_one_91 ?_
    obtain ⟨v2, S3, e4, h⟩ := g_bd_ex h
    refine q_cvi (As := [.int 41]) cx mo_X11_takes mv_X11_takes z_cl11 rfl tb_406 (by omega) rfl (by decide) rfl rfl (Nat.le_of_ble_eq_true rfl) dX11_one_93 (c_X11_takes 41 _ e4) ?_
    refine q_ifb_ne (tgt := 104) cx (by decide) dX11_one_96 (fun c5 => ?_) (fun c5 => ?_)
    · have h := g_t c5 h
      exact q_weak (z_wk_s (z_wk_s (z_wk_s (z_wk_n (z_wk_n (z_wk_0)))))) (t_X11_one_104 n G hG hb cx ce x1 y0 S3 h)
    · have h := g_f (Bool.eq_false_iff.mp c5) h
      refine z_aload_n cx rfl rfl dX11_one_99 ?_
      obtain ⟨v6, S7, e8, h⟩ := g_bd_ex h
      refine q_cvi (As := []) cx mo_X11_wrong mv_X11_wrong z_cl11 rfl tb_423 (by omega) rfl (by decide) rfl rfl (Nat.le_of_ble_eq_true rfl) dX11_one_100 (c_X11_wrong  _ e8) ?_
      obtain ⟨rfl, rfl⟩ := g_some h
      exact z_ireturn cx ce rfl ⟨rfl, rfl⟩ dX11_one_103
def f_X11_one_32 (n : Nat) (G : GT_X11_either) (x1 : Int32) (S : z_Stt) : Option (Int32 × z_Stt) :=
  if S.1 4821 = 6 then
    g_bd (f_X11_wrong S) fun v13 S14 =>
    some (v13, S14)
  else
    g_let (sI S 4821 ((S.1 4821) + 1)) fun S2 =>
    g_let (sI S2 4818 ((S2.1 4818) + 1)) fun S4 =>
    if x1 = 40 then
      g_bd (G.1 S4) fun v10 S11 =>
      f_X11_one_83 n G x1 v10 S11
    else
      g_bd (G.2.2.2.2.2 S4) fun v7 S8 =>
      f_X11_one_83 n G x1 v7 S8
set_option maxHeartbeats 4000000 in
set_option maxRecDepth 100000 in
theorem t_X11_one_32 {g : z_G} {K : z_K} (n : Nat) (G : GT_X11_either) {d0 : Nat} (hG : HG_X11_either g G d0) (hb : 1 ≤ d0) {v : Int32} {S' : z_Stt} (cx : z_C g M_X11_one (d0 + 1) K) (ce : z_E' g M_X11_one (z_P g (some (.int v)) S') K) (x1 : Int32) (S : z_Stt) (h : f_X11_one_32 n G x1 S = some (v, S')) : z_At g M_X11_one K 32 [some (.ref (z_ad g 48)), some (.int x1), none, none, none] [] (hp g S) := by
  unfold f_X11_one_32 at h
  refine z_aload_n cx rfl rfl dX11_one_32 ?_
  refine q_getI (k := 48) (n := 4821) cx z_cl11 (j := 21) (by decide) tb_398 rfl (by decide) rfl rfl rfl dX11_one_33 ?_
  refine z_bipush (v := 6) cx (by decide +kernel) dX11_one_36 ?_
  refine z_icmp_ne (tgt := 46) cx (by decide) dX11_one_38 (fun c1 => ?_) (fun c1 => ?_)
  · have h := g_f c1 h
    refine z_aload_n cx rfl rfl dX11_one_46 ?_
    refine z_dup cx rfl dX11_one_47 ?_
    refine q_getI (k := 48) (n := 4821) cx z_cl11 (j := 21) (by decide) tb_398 rfl (by decide) rfl rfl rfl dX11_one_48 ?_
    refine z_iconst (v := 1) cx (by decide +kernel) dX11_one_51 ?_
    refine z_iadd cx dX11_one_52 ?_
    refine q_putI (k := 48) (n := 4821) cx z_cl11 (j := 21) (by decide) tb_398 rfl rfl rfl (by decide) rfl rfl rfl (by decide) (by decide) dX11_one_53 ?_
    obtain ⟨S2, e3, h⟩ := g_let_ex h
    rw [← e3]
    refine z_aload_n cx rfl rfl dX11_one_56 ?_
    refine z_dup cx rfl dX11_one_57 ?_
    refine q_getI (k := 48) (n := 4818) cx z_cl11 (j := 18) (by decide) tb_396 rfl (by decide) rfl rfl rfl dX11_one_58 ?_
    refine z_iconst (v := 1) cx (by decide +kernel) dX11_one_61 ?_
    refine z_iadd cx dX11_one_62 ?_
    refine q_putI (k := 48) (n := 4818) cx z_cl11 (j := 18) (by decide) tb_396 rfl rfl rfl (by decide) rfl rfl rfl (by decide) (by decide) dX11_one_63 ?_
    obtain ⟨S4, e5, h⟩ := g_let_ex h
    rw [← e5]
    refine z_iload_n cx rfl rfl dX11_one_66 ?_
    refine z_bipush (v := 40) cx (by decide +kernel) dX11_one_67 ?_
    refine z_icmp_ne (tgt := 79) cx (by decide) dX11_one_69 (fun c6 => ?_) (fun c6 => ?_)
    · have h := g_f c6 h
      refine z_aload_n cx rfl rfl dX11_one_79 ?_
      obtain ⟨v7, S8, e9, h⟩ := g_bd_ex h
      refine q_cvi (As := []) cx mo_X11_one mv_X11_one z_cl11 rfl tb_427 (Nat.le_refl _) rfl (by decide) rfl rfl (Nat.le_of_ble_eq_true rfl) dX11_one_80 (hG.2.2.2.2.2  _ _ _ e9) ?_
      exact q_weak (z_wk_s (z_wk_s (z_wk_n (z_wk_n (z_wk_n (z_wk_0)))))) (t_X11_one_83 n G hG hb cx ce x1 v7 S8 h)
    · have h := g_t c6 h
      refine z_aload_n cx rfl rfl dX11_one_72 ?_
      obtain ⟨v10, S11, e12, h⟩ := g_bd_ex h
      refine q_cvi (As := []) cx mo_X11_either mv_X11_either z_cl11 rfl tb_399 (Nat.le_refl _) rfl (by decide) rfl rfl (Nat.le_of_ble_eq_true rfl) dX11_one_73 (hG.1  _ _ _ e12) ?_
      refine z_goto (tgt := 83) cx (by decide) dX11_one_76 ?_
      exact q_weak (z_wk_s (z_wk_s (z_wk_n (z_wk_n (z_wk_n (z_wk_0)))))) (t_X11_one_83 n G hG hb cx ce x1 v10 S11 h)
  · have h := g_t c1 h
    refine z_aload_n cx rfl rfl dX11_one_41 ?_
    obtain ⟨v13, S14, e15, h⟩ := g_bd_ex h
    refine q_cvi (As := []) cx mo_X11_wrong mv_X11_wrong z_cl11 rfl tb_423 (by omega) rfl (by decide) rfl rfl (Nat.le_of_ble_eq_true rfl) dX11_one_42 (c_X11_wrong  _ e15) ?_
    obtain ⟨rfl, rfl⟩ := g_some h
    exact z_ireturn cx ce rfl ⟨rfl, rfl⟩ dX11_one_45
def f_X11_one_229 (n : Nat) (G : GT_X11_either) (x3 : Int32) (x4 : Int32) (S : z_Stt) : Option (Int32 × z_Stt) :=
  if x4 = 0 then
    g_bd (f_X11_wrong S) fun v2 S3 =>
    some (v2, S3)
  else
    some (x3, S)
set_option maxHeartbeats 4000000 in
set_option maxRecDepth 100000 in
theorem t_X11_one_229 {g : z_G} {K : z_K} (n : Nat) (G : GT_X11_either) {d0 : Nat} (hG : HG_X11_either g G d0) (hb : 1 ≤ d0) {v : Int32} {S' : z_Stt} (cx : z_C g M_X11_one (d0 + 1) K) (ce : z_E' g M_X11_one (z_P g (some (.int v)) S') K) (x3 : Int32) (x4 : Int32) (S : z_Stt) (h : f_X11_one_229 n G x3 x4 S = some (v, S')) : z_At g M_X11_one K 229 [some (.ref (z_ad g 48)), none, none, some (.int x3), some (.int x4)] [] (hp g S) := by
  unfold f_X11_one_229 at h
  refine z_iload cx rfl dX11_one_229 ?_
  refine z_if_ne (tgt := 241) cx (by decide) dX11_one_231 (fun c1 => ?_) (fun c1 => ?_)
  · have h := g_f c1 h
    refine z_iload_n cx rfl rfl dX11_one_241 ?_
    obtain ⟨rfl, rfl⟩ := g_some h
    exact z_ireturn cx ce rfl ⟨rfl, rfl⟩ dX11_one_242
  · have h := g_t c1 h
    refine z_aload_n cx rfl rfl dX11_one_234 ?_
    obtain ⟨v2, S3, e4, h⟩ := g_bd_ex h
    refine q_cvi (As := []) cx mo_X11_wrong mv_X11_wrong z_cl11 rfl tb_423 (by omega) rfl (by decide) rfl rfl (Nat.le_of_ble_eq_true rfl) dX11_one_235 (c_X11_wrong  _ e4) ?_
    refine z_goto (tgt := 242) cx (by decide) dX11_one_238 ?_
    obtain ⟨rfl, rfl⟩ := g_some h
    exact z_ireturn cx ce rfl ⟨rfl, rfl⟩ dX11_one_242
def f_X11_one_176 (n : Nat) (G : GT_X11_either) : Nat → Int32 → Int32 → z_Stt → Option (Int32 × z_Stt)
  | 0, _, _, _ => none
  | m + 1, x3, x4, S =>
    if 4 ≤ x4 then
      f_X11_one_229 n G x3 x4 S
    else
      g_bd (f_X11_byteAt S) fun v2 S3 =>
      if v2 < 48 then
        f_X11_one_229 n G x3 x4 S3
      else
        g_bd (f_X11_byteAt S3) fun v6 S7 =>
        if 57 < v6 then
          f_X11_one_229 n G x3 x4 S7
        else
          g_bd (f_X11_byteAt S7) fun v10 S11 =>
          g_let (sI S11 4818 ((S11.1 4818) + 1)) fun S13 =>
          f_X11_one_176 n G m (((10 * x3) + v10) - 48) (x4 + 1) S13
set_option maxHeartbeats 4000000 in
set_option maxRecDepth 100000 in
theorem t_X11_one_176 {g : z_G} {K : z_K} (n : Nat) (G : GT_X11_either) {d0 : Nat} (hG : HG_X11_either g G d0) (hb : 1 ≤ d0) {v : Int32} {S' : z_Stt} (cx : z_C g M_X11_one (d0 + 1) K) (ce : z_E' g M_X11_one (z_P g (some (.int v)) S') K) : ∀ (m : Nat) (x3 : Int32) (x4 : Int32) (S : z_Stt) (h : f_X11_one_176 n G m x3 x4 S = some (v, S')), z_At g M_X11_one K 176 [some (.ref (z_ad g 48)), none, none, some (.int x3), some (.int x4)] [] (hp g S) := by
  intro m
  induction m with
  | zero => intro x3 x4 S h; simp [f_X11_one_176] at h
  | succ m ih =>
    intro x3 x4 S h
    rw [f_X11_one_176] at h
    refine z_iload cx rfl dX11_one_176 ?_
    refine z_iconst (v := 4) cx (by decide +kernel) dX11_one_178 ?_
    refine z_icmp_ge (tgt := 229) cx (by decide) dX11_one_179 (fun c1 => ?_) (fun c1 => ?_)
    · have h := g_t c1 h
      exact q_weak (z_wk_s (z_wk_n (z_wk_n (z_wk_s (z_wk_s (z_wk_0)))))) (t_X11_one_229 n G hG hb cx ce x3 x4 S h)
    · have h := g_f c1 h
      refine z_aload_n cx rfl rfl dX11_one_182 ?_
      obtain ⟨v2, S3, e4, h⟩ := g_bd_ex h
      refine q_cvi (As := []) cx mo_X11_byteAt mv_X11_byteAt z_cl11 rfl tb_410 (by omega) rfl (by decide) rfl rfl (Nat.le_of_ble_eq_true rfl) dX11_one_183 (c_X11_byteAt  _ e4) ?_
      refine z_bipush (v := 48) cx (by decide +kernel) dX11_one_186 ?_
      refine z_icmp_lt (tgt := 229) cx (by decide) dX11_one_188 (fun c5 => ?_) (fun c5 => ?_)
      · have h := g_t c5 h
        exact q_weak (z_wk_s (z_wk_n (z_wk_n (z_wk_s (z_wk_s (z_wk_0)))))) (t_X11_one_229 n G hG hb cx ce x3 x4 S3 h)
      · have h := g_f c5 h
        refine z_aload_n cx rfl rfl dX11_one_191 ?_
        obtain ⟨v6, S7, e8, h⟩ := g_bd_ex h
        refine q_cvi (As := []) cx mo_X11_byteAt mv_X11_byteAt z_cl11 rfl tb_410 (by omega) rfl (by decide) rfl rfl (Nat.le_of_ble_eq_true rfl) dX11_one_192 (c_X11_byteAt  _ e8) ?_
        refine z_bipush (v := 57) cx (by decide +kernel) dX11_one_195 ?_
        refine z_icmp_gt (tgt := 229) cx (by decide) dX11_one_197 (fun c9 => ?_) (fun c9 => ?_)
        · have h := g_t c9 h
          exact q_weak (z_wk_s (z_wk_n (z_wk_n (z_wk_s (z_wk_s (z_wk_0)))))) (t_X11_one_229 n G hG hb cx ce x3 x4 S7 h)
        · have h := g_f c9 h
          refine z_bipush (v := 10) cx (by decide +kernel) dX11_one_200 ?_
          refine z_iload_n cx rfl rfl dX11_one_202 ?_
          refine z_imul cx dX11_one_203 ?_
          refine z_aload_n cx rfl rfl dX11_one_204 ?_
          obtain ⟨v10, S11, e12, h⟩ := g_bd_ex h
          refine q_cvi (As := []) cx mo_X11_byteAt mv_X11_byteAt z_cl11 rfl tb_410 (by omega) rfl (by decide) rfl rfl (Nat.le_of_ble_eq_true rfl) dX11_one_205 (c_X11_byteAt  _ e12) ?_
          refine z_iadd cx dX11_one_208 ?_
          refine z_bipush (v := 48) cx (by decide +kernel) dX11_one_209 ?_
          refine z_isub cx dX11_one_211 ?_
          refine z_istore_n (L' := [some (.ref (z_ad g 48)), none, none, some (.int (((10 * x3) + v10) - 48)), some (.int x4)]) cx rfl (by decide) rfl dX11_one_212 ?_
          refine z_iinc (c := 1) (L' := [some (.ref (z_ad g 48)), none, none, some (.int (((10 * x3) + v10) - 48)), some (.int (x4 + 1))]) cx rfl (by decide +kernel) (by decide) rfl dX11_one_213 ?_
          refine z_aload_n cx rfl rfl dX11_one_216 ?_
          refine z_dup cx rfl dX11_one_217 ?_
          refine q_getI (k := 48) (n := 4818) cx z_cl11 (j := 18) (by decide) tb_396 rfl (by decide) rfl rfl rfl dX11_one_218 ?_
          refine z_iconst (v := 1) cx (by decide +kernel) dX11_one_221 ?_
          refine z_iadd cx dX11_one_222 ?_
          refine q_putI (k := 48) (n := 4818) cx z_cl11 (j := 18) (by decide) tb_396 rfl rfl rfl (by decide) rfl rfl rfl (by decide) (by decide) dX11_one_223 ?_
          obtain ⟨S13, e14, h⟩ := g_let_ex h
          rw [← e14]
          refine z_goto (tgt := 176) cx (by decide) dX11_one_226 ?_
          exact q_weak (z_wk_s (z_wk_n (z_wk_n (z_wk_s (z_wk_s (z_wk_0)))))) (ih (((10 * x3) + v10) - 48) (x4 + 1) S13 h)
def f_X11_one (n : Nat) (G : GT_X11_either) (S : z_Stt) : Option (Int32 × z_Stt) :=
  if S.1 4820 < 0 then
    g_bd (f_X11_byteAt S) fun v2 S3 =>
    if v2 = 33 then
      f_X11_one_32 n G v2 S3
    else
      if v2 = 45 then
        f_X11_one_32 n G v2 S3
      else
        if v2 = 40 then
          f_X11_one_32 n G v2 S3
        else
          g_bd (f_X11_nameOf v2 S3) fun v8 S9 =>
          if v8 < 0 then
            f_X11_one_176 n G n 0 0 S9
          else
            g_let (sI S9 4818 ((S9.1 4818) + 1)) fun S12 =>
            if ¬ (v8 < 0 ∨ 6 ≤ v8.toNatClampNeg) then
              some (S12.2.2.1 57 v8.toNatClampNeg, S12)
            else none
  else
    some (0, S)
set_option maxHeartbeats 4000000 in
set_option maxRecDepth 100000 in
theorem t_X11_one {g : z_G} {K : z_K} (n : Nat) (G : GT_X11_either) {d0 : Nat} (hG : HG_X11_either g G d0) (hb : 1 ≤ d0) {v : Int32} {S' : z_Stt} (cx : z_C g M_X11_one (d0 + 1) K) (ce : z_E' g M_X11_one (z_P g (some (.int v)) S') K) (S : z_Stt) (h : f_X11_one n G S = some (v, S')) : z_At g M_X11_one K 0 [some (.ref (z_ad g 48)), none, none, none, none] [] (hp g S) := by
  unfold f_X11_one at h
  refine z_aload_n cx rfl rfl dX11_one_0 ?_
  refine q_getI (k := 48) (n := 4820) cx z_cl11 (j := 20) (by decide) tb_390 rfl (by decide) rfl rfl rfl dX11_one_1 ?_
  refine z_if_lt (tgt := 9) cx (by decide) dX11_one_4 (fun c1 => ?_) (fun c1 => ?_)
  · have h := g_t c1 h
    refine z_aload_n cx rfl rfl dX11_one_9 ?_
    obtain ⟨v2, S3, e4, h⟩ := g_bd_ex h
    refine q_cvi (As := []) cx mo_X11_byteAt mv_X11_byteAt z_cl11 rfl tb_410 (by omega) rfl (by decide) rfl rfl (Nat.le_of_ble_eq_true rfl) dX11_one_10 (c_X11_byteAt  _ e4) ?_
    refine z_istore_n (L' := [some (.ref (z_ad g 48)), some (.int v2), none, none, none]) cx rfl (by decide) rfl dX11_one_13 ?_
    refine z_iload_n cx rfl rfl dX11_one_14 ?_
    refine z_bipush (v := 33) cx (by decide +kernel) dX11_one_15 ?_
    refine z_icmp_eq (tgt := 32) cx (by decide) dX11_one_17 (fun c5 => ?_) (fun c5 => ?_)
    · have h := g_t c5 h
      exact q_weak (z_wk_s (z_wk_s (z_wk_n (z_wk_n (z_wk_n (z_wk_0)))))) (t_X11_one_32 n G hG hb cx ce v2 S3 h)
    · have h := g_f c5 h
      refine z_iload_n cx rfl rfl dX11_one_20 ?_
      refine z_bipush (v := 45) cx (by decide +kernel) dX11_one_21 ?_
      refine z_icmp_eq (tgt := 32) cx (by decide) dX11_one_23 (fun c6 => ?_) (fun c6 => ?_)
      · have h := g_t c6 h
        exact q_weak (z_wk_s (z_wk_s (z_wk_n (z_wk_n (z_wk_n (z_wk_0)))))) (t_X11_one_32 n G hG hb cx ce v2 S3 h)
      · have h := g_f c6 h
        refine z_iload_n cx rfl rfl dX11_one_26 ?_
        refine z_bipush (v := 40) cx (by decide +kernel) dX11_one_27 ?_
        refine z_icmp_ne (tgt := 145) cx (by decide) dX11_one_29 (fun c7 => ?_) (fun c7 => ?_)
        · have h := g_f c7 h
          refine z_iload_n cx rfl rfl dX11_one_145 ?_
          obtain ⟨v8, S9, e10, h⟩ := g_bd_ex h
          refine q_csi (As := [.int v2]) cx mo_X11_nameOf ms_X11_nameOf tb_430 (by omega) rfl rfl (Nat.le_of_ble_eq_true rfl) dX11_one_146 (c_X11_nameOf v2 _ e10) ?_
          refine z_istore_n (L' := [some (.ref (z_ad g 48)), some (.int v2), some (.int v8), none, none]) cx rfl (by decide) rfl dX11_one_149 ?_
          refine z_iload_n cx rfl rfl dX11_one_150 ?_
          refine z_if_lt (tgt := 171) cx (by decide) dX11_one_151 (fun c11 => ?_) (fun c11 => ?_)
          · have h := g_t c11 h
            refine z_iconst (v := 0) cx (by decide +kernel) dX11_one_171 ?_
            refine z_istore_n (L' := [some (.ref (z_ad g 48)), some (.int v2), some (.int v8), some (.int 0), none]) cx rfl (by decide) rfl dX11_one_172 ?_
            refine z_iconst (v := 0) cx (by decide +kernel) dX11_one_173 ?_
            refine z_istore (L' := [some (.ref (z_ad g 48)), some (.int v2), some (.int v8), some (.int 0), some (.int 0)]) cx (by decide) rfl dX11_one_174 ?_
            exact q_weak (z_wk_s (z_wk_n (z_wk_n (z_wk_s (z_wk_s (z_wk_0)))))) (t_X11_one_176 n G hG hb cx ce n 0 0 S9 h)
          · have h := g_f c11 h
            refine z_aload_n cx rfl rfl dX11_one_154 ?_
            refine z_dup cx rfl dX11_one_155 ?_
            refine q_getI (k := 48) (n := 4818) cx z_cl11 (j := 18) (by decide) tb_396 rfl (by decide) rfl rfl rfl dX11_one_156 ?_
            refine z_iconst (v := 1) cx (by decide +kernel) dX11_one_159 ?_
            refine z_iadd cx dX11_one_160 ?_
            refine q_putI (k := 48) (n := 4818) cx z_cl11 (j := 18) (by decide) tb_396 rfl rfl rfl (by decide) rfl rfl rfl (by decide) (by decide) dX11_one_161 ?_
            obtain ⟨S12, e13, h⟩ := g_let_ex h
            rw [← e13]
            refine z_aload_n cx rfl rfl dX11_one_164 ?_
            refine q_getF (k := 48) (n := 57) (r := 9) cx z_cl11 (j := 22) (by decide) tb_150 rfl (by decide) rfl rfl rfl dX11_one_165 ?_
            refine z_iload_n cx rfl rfl dX11_one_168 ?_
            obtain ⟨c14, h⟩ := g_if h
            refine q_iald cx (by decide) rfl c14 dX11_one_169 ?_
            obtain ⟨rfl, rfl⟩ := g_some h
            exact z_ireturn cx ce rfl ⟨rfl, rfl⟩ dX11_one_170
        · have h := g_t c7 h
          exact q_weak (z_wk_s (z_wk_s (z_wk_n (z_wk_n (z_wk_n (z_wk_0)))))) (t_X11_one_32 n G hG hb cx ce v2 S3 h)
  · have h := g_f c1 h
    refine z_iconst (v := 0) cx (by decide +kernel) dX11_one_7 ?_
    obtain ⟨rfl, rfl⟩ := g_some h
    exact z_ireturn cx ce rfl ⟨rfl, rfl⟩ dX11_one_8
theorem c_X11_one {g : z_G} {n : Nat} {G : GT_X11_either} {d0 : Nat} (hG : HG_X11_either g G d0) (hb : 1 ≤ d0) (S : z_Stt) {v : Int32} {S' : z_Stt} (h : f_X11_one n G S = some (v, S')) : z_Ct g M_X11_one (d0 + 1) [.ref (z_ad g 48)] (hp g S) (z_P g (some (.int v)) S') :=
  z_Ct.of (by decide +kernel) rfl (Nat.le_of_ble_eq_true rfl) (fun K cx ce => q_weak (L' := [some (.ref (z_ad g 48)), none, none, none, none]) (z_wk_s (z_wk_e (z_wk_e (z_wk_e (z_wk_e (z_wk_0)))))) (t_X11_one n G hG hb cx ce S h))
def g_X11_either (n : Nat) : Nat → GT_X11_either
  | 0 => (fun _ => none, fun _ => none, fun _ => none, fun _ => none, fun _ => none, fun _ => none)
  | dp + 1 => (f_X11_either n (g_X11_either n dp), f_X11_both n (g_X11_either n dp), f_X11_compared n (g_X11_either n dp), f_X11_sums n (g_X11_either n dp), f_X11_product n (g_X11_either n dp), f_X11_one n (g_X11_either n dp))
set_option maxHeartbeats 4000000 in
set_option maxRecDepth 100000 in
theorem hg_X11_either {g : z_G} {n : Nat} : ∀ dp : Nat, HG_X11_either g (g_X11_either n dp) (1 + dp) := by
  intro dp
  induction dp with
  | zero => exact ⟨(fun _ _ _ h => nomatch h), (fun _ _ _ h => nomatch h), (fun _ _ _ h => nomatch h), (fun _ _ _ h => nomatch h), (fun _ _ _ h => nomatch h), (fun _ _ _ h => nomatch h)⟩
  | succ dp ih => exact ⟨(fun  S v S' h => c_X11_either (n := n) ih (Nat.le_add_right _ _)  S h), (fun  S v S' h => c_X11_both (n := n) ih (Nat.le_add_right _ _)  S h), (fun  S v S' h => c_X11_compared (n := n) ih (Nat.le_add_right _ _)  S h), (fun  S v S' h => c_X11_sums (n := n) ih (Nat.le_add_right _ _)  S h), (fun  S v S' h => c_X11_product (n := n) ih (Nat.le_add_right _ _)  S h), (fun  S v S' h => c_X11_one (n := n) ih (Nat.le_add_right _ _)  S h)⟩
theorem cg_X11_either {g : z_G} {n : Nat} (S : z_Stt) {v : Int32} {S' : z_Stt} (h : (g_X11_either n 64).1 S = some (v, S')) : z_Ct g M_X11_either 65 [.ref (z_ad g 48)] (hp g S) (z_P g (some (.int v)) S') := (hg_X11_either 64).1 S _ _ h
theorem cg_X11_both {g : z_G} {n : Nat} (S : z_Stt) {v : Int32} {S' : z_Stt} (h : (g_X11_either n 64).2.1 S = some (v, S')) : z_Ct g M_X11_both 65 [.ref (z_ad g 48)] (hp g S) (z_P g (some (.int v)) S') := (hg_X11_either 64).2.1 S _ _ h
theorem cg_X11_compared {g : z_G} {n : Nat} (S : z_Stt) {v : Int32} {S' : z_Stt} (h : (g_X11_either n 64).2.2.1 S = some (v, S')) : z_Ct g M_X11_compared 65 [.ref (z_ad g 48)] (hp g S) (z_P g (some (.int v)) S') := (hg_X11_either 64).2.2.1 S _ _ h
theorem cg_X11_sums {g : z_G} {n : Nat} (S : z_Stt) {v : Int32} {S' : z_Stt} (h : (g_X11_either n 64).2.2.2.1 S = some (v, S')) : z_Ct g M_X11_sums 65 [.ref (z_ad g 48)] (hp g S) (z_P g (some (.int v)) S') := (hg_X11_either 64).2.2.2.1 S _ _ h
theorem cg_X11_product {g : z_G} {n : Nat} (S : z_Stt) {v : Int32} {S' : z_Stt} (h : (g_X11_either n 64).2.2.2.2.1 S = some (v, S')) : z_Ct g M_X11_product 65 [.ref (z_ad g 48)] (hp g S) (z_P g (some (.int v)) S') := (hg_X11_either 64).2.2.2.2.1 S _ _ h
theorem cg_X11_one {g : z_G} {n : Nat} (S : z_Stt) {v : Int32} {S' : z_Stt} (h : (g_X11_either n 64).2.2.2.2.2 S = some (v, S')) : z_Ct g M_X11_one 65 [.ref (z_ad g 48)] (hp g S) (z_P g (some (.int v)) S') := (hg_X11_either 64).2.2.2.2.2 S _ _ h
abbrev M_X11_workOut : z_M := (RX11, yX11_workOut, cX11_workOut, 8, some .int)
theorem mo_X11_workOut : z_mo M_X11_workOut 2 := ⟨tb_394, tb_5, rfl, ⟨by decide +kernel, by decide +kernel⟩, by decide +kernel, by decide⟩
theorem mv_X11_workOut : z_mv M_X11_workOut := ⟨tb_392, tb_393⟩
def f_X11_workOut_96 (n : Nat) (k33 : Int32 → Int32 → Int32 → z_Stt → Option (Int32 × z_Stt)) (x3 : Int32) (x4 : Int32) (S : z_Stt) : Option (Int32 × z_Stt) :=
  g_bd (f_X11_takes 59 S) fun v1 S2 =>
  k33 x3 x4 (bI v1) S2
set_option maxHeartbeats 4000000 in
set_option maxRecDepth 100000 in
theorem t_X11_workOut_96 {g : z_G} {K : z_K} (n : Nat) {v : Int32} {S' : z_Stt} (cx : z_C g M_X11_workOut 66 K) (ce : z_E' g M_X11_workOut (z_P g (some (.int v)) S') K) (k33 : Int32 → Int32 → Int32 → z_Stt → Option (Int32 × z_Stt)) (hk33 : ∀ (x3 : Int32) (x4 : Int32) (x5 : Int32) (S : z_Stt), k33 x3 x4 x5 S = some (v, S') → z_At g M_X11_workOut K 33 [some (.ref (z_ad g 48)), none, none, some (.int x3), some (.int x4), some (.int x5), none, none] [] (hp g S)) (x3 : Int32) (x4 : Int32) (S : z_Stt) (h : f_X11_workOut_96 n k33 x3 x4 S = some (v, S')) : z_At g M_X11_workOut K 96 [some (.ref (z_ad g 48)), none, none, some (.int x3), some (.int x4), none, none, none] [] (hp g S) := by
  unfold f_X11_workOut_96 at h
  refine z_aload_n cx rfl rfl dX11_workOut_96 ?_
  refine z_bipush (v := 59) cx (by decide +kernel) dX11_workOut_97 ?_
  obtain ⟨v1, S2, e3, h⟩ := g_bd_ex h
  refine q_cvi (As := [.int 59]) cx mo_X11_takes mv_X11_takes z_cl11 rfl tb_406 (by decide) rfl (by decide) rfl rfl (Nat.le_of_ble_eq_true rfl) dX11_workOut_99 (c_X11_takes 59 _ e3) ?_
  refine z_istore (L' := [some (.ref (z_ad g 48)), none, none, some (.int x3), some (.int x4), some (.int (bI v1)), none, none]) cx (by decide) rfl dX11_workOut_102 ?_
  refine z_goto (tgt := 33) cx (by decide) dX11_workOut_104 ?_
  exact q_weak (z_wk_s (z_wk_n (z_wk_n (z_wk_s (z_wk_s (z_wk_s (z_wk_n (z_wk_n (z_wk_0))))))))) (hk33 x3 x4 (bI v1) S2 h)
def f_X11_workOut_74 (n : Nat) (k33 : Int32 → Int32 → Int32 → z_Stt → Option (Int32 × z_Stt)) (x3 : Int32) (x4 : Int32) (x6 : Int32) (x7 : Int32) (S : z_Stt) : Option (Int32 × z_Stt) :=
  if 0 ≤ S.1 4820 then
    f_X11_workOut_96 n k33 x3 x4 S
  else
    if x7 = 0 then
      f_X11_workOut_96 n k33 x3 x4 S
    else
      if x3 = 0 then
        f_X11_workOut_96 n k33 1 x6 S
      else
        f_X11_workOut_96 n k33 x3 x4 S
set_option maxHeartbeats 4000000 in
set_option maxRecDepth 100000 in
theorem t_X11_workOut_74 {g : z_G} {K : z_K} (n : Nat) {v : Int32} {S' : z_Stt} (cx : z_C g M_X11_workOut 66 K) (ce : z_E' g M_X11_workOut (z_P g (some (.int v)) S') K) (k33 : Int32 → Int32 → Int32 → z_Stt → Option (Int32 × z_Stt)) (hk33 : ∀ (x3 : Int32) (x4 : Int32) (x5 : Int32) (S : z_Stt), k33 x3 x4 x5 S = some (v, S') → z_At g M_X11_workOut K 33 [some (.ref (z_ad g 48)), none, none, some (.int x3), some (.int x4), some (.int x5), none, none] [] (hp g S)) (x3 : Int32) (x4 : Int32) (x6 : Int32) (x7 : Int32) (S : z_Stt) (h : f_X11_workOut_74 n k33 x3 x4 x6 x7 S = some (v, S')) : z_At g M_X11_workOut K 74 [some (.ref (z_ad g 48)), none, none, some (.int x3), some (.int x4), none, some (.int x6), some (.int x7)] [] (hp g S) := by
  unfold f_X11_workOut_74 at h
  refine z_aload_n cx rfl rfl dX11_workOut_74 ?_
  refine q_getI (k := 48) (n := 4820) cx z_cl11 (j := 20) (by decide) tb_390 rfl (by decide) rfl rfl rfl dX11_workOut_75 ?_
  refine z_if_ge (tgt := 96) cx (by decide) dX11_workOut_78 (fun c1 => ?_) (fun c1 => ?_)
  · have h := g_t c1 h
    exact q_weak (z_wk_s (z_wk_n (z_wk_n (z_wk_s (z_wk_s (z_wk_n (z_wk_n (z_wk_n (z_wk_0))))))))) (t_X11_workOut_96 n cx ce k33 hk33 x3 x4 S h)
  · have h := g_f c1 h
    refine z_iload cx rfl dX11_workOut_81 ?_
    refine z_if_eq (tgt := 96) cx (by decide) dX11_workOut_83 (fun c2 => ?_) (fun c2 => ?_)
    · have h := g_t c2 h
      exact q_weak (z_wk_s (z_wk_n (z_wk_n (z_wk_s (z_wk_s (z_wk_n (z_wk_n (z_wk_n (z_wk_0))))))))) (t_X11_workOut_96 n cx ce k33 hk33 x3 x4 S h)
    · have h := g_f c2 h
      refine z_iload_n cx rfl rfl dX11_workOut_86 ?_
      refine z_if_ne (tgt := 96) cx (by decide) dX11_workOut_87 (fun c3 => ?_) (fun c3 => ?_)
      · have h := g_f c3 h
        exact q_weak (z_wk_s (z_wk_n (z_wk_n (z_wk_s (z_wk_s (z_wk_n (z_wk_n (z_wk_n (z_wk_0))))))))) (t_X11_workOut_96 n cx ce k33 hk33 x3 x4 S h)
      · have h := g_t c3 h
        refine z_iconst (v := 1) cx (by decide +kernel) dX11_workOut_90 ?_
        refine z_istore_n (L' := [some (.ref (z_ad g 48)), none, none, some (.int 1), some (.int x4), none, some (.int x6), some (.int x7)]) cx rfl (by decide) rfl dX11_workOut_91 ?_
        refine z_iload cx rfl dX11_workOut_92 ?_
        refine z_istore (L' := [some (.ref (z_ad g 48)), none, none, some (.int 1), some (.int x6), none, some (.int x6), some (.int x7)]) cx (by decide) rfl dX11_workOut_94 ?_
        exact q_weak (z_wk_s (z_wk_n (z_wk_n (z_wk_s (z_wk_s (z_wk_n (z_wk_n (z_wk_n (z_wk_0))))))))) (t_X11_workOut_96 n cx ce k33 hk33 1 x6 S h)
def f_X11_workOut_66 (n : Nat) (k33 : Int32 → Int32 → Int32 → z_Stt → Option (Int32 × z_Stt)) (x3 : Int32) (x4 : Int32) (y0 : Int32) (S : z_Stt) : Option (Int32 × z_Stt) :=
  g_bd ((g_X11_either n 64).1 S) fun v1 S2 =>
  f_X11_workOut_74 n k33 x3 x4 v1 y0 S2
set_option maxHeartbeats 4000000 in
set_option maxRecDepth 100000 in
theorem t_X11_workOut_66 {g : z_G} {K : z_K} (n : Nat) {v : Int32} {S' : z_Stt} (cx : z_C g M_X11_workOut 66 K) (ce : z_E' g M_X11_workOut (z_P g (some (.int v)) S') K) (k33 : Int32 → Int32 → Int32 → z_Stt → Option (Int32 × z_Stt)) (hk33 : ∀ (x3 : Int32) (x4 : Int32) (x5 : Int32) (S : z_Stt), k33 x3 x4 x5 S = some (v, S') → z_At g M_X11_workOut K 33 [some (.ref (z_ad g 48)), none, none, some (.int x3), some (.int x4), some (.int x5), none, none] [] (hp g S)) (x3 : Int32) (x4 : Int32) (y0 : Int32) (S : z_Stt) (h : f_X11_workOut_66 n k33 x3 x4 y0 S = some (v, S')) : z_At g M_X11_workOut K 66 [some (.ref (z_ad g 48)), none, none, some (.int x3), some (.int x4), none, none, none] [.int y0] (hp g S) := by
  unfold f_X11_workOut_66 at h
  refine z_istore (L' := [some (.ref (z_ad g 48)), none, none, some (.int x3), some (.int x4), none, none, some (.int y0)]) cx (by decide) rfl dX11_workOut_66 ?_
  refine z_aload_n cx rfl rfl dX11_workOut_68 ?_
  obtain ⟨v1, S2, e3, h⟩ := g_bd_ex h
  refine q_cvi (As := []) cx mo_X11_either mv_X11_either z_cl11 rfl tb_399 (by decide) rfl (by decide) rfl rfl (Nat.le_of_ble_eq_true rfl) dX11_workOut_69 (cg_X11_either  _ e3) ?_
  refine z_istore (L' := [some (.ref (z_ad g 48)), none, none, some (.int x3), some (.int x4), none, some (.int v1), some (.int y0)]) cx (by decide) rfl dX11_workOut_72 ?_
  exact q_weak (z_wk_s (z_wk_n (z_wk_n (z_wk_s (z_wk_s (z_wk_n (z_wk_s (z_wk_s (z_wk_0))))))))) (t_X11_workOut_74 n cx ce k33 hk33 x3 x4 v1 y0 S2 h)
def f_X11_workOut_33 (n : Nat) : Nat → Int32 → Int32 → Int32 → z_Stt → Option (Int32 × z_Stt)
  | 0, _, _, _, _ => none
  | m + 1, x3, x4, x5, S =>
    if x5 = 0 then
      if 0 ≤ S.1 4820 then
        some (x4, S)
      else
        if S.1 4819 ≤ S.1 4818 then
          some (x4, S)
        else
          g_bd (f_X11_wrong S) fun v4 S5 =>
          some (v4, S5)
    else
      g_bd ((g_X11_either n 64).1 S) fun v7 S8 =>
      g_bd (f_X11_takes 63 S8) fun v10 S11 =>
      if v10 = true then
        if v7 = 0 then
          f_X11_workOut_66 n (f_X11_workOut_33 n m) x3 x4 0 S11
        else
          f_X11_workOut_66 n (f_X11_workOut_33 n m) x3 x4 1 S11
      else
        f_X11_workOut_74 n (f_X11_workOut_33 n m) x3 x4 v7 1 S11
set_option maxHeartbeats 4000000 in
set_option maxRecDepth 100000 in
theorem t_X11_workOut_33 {g : z_G} {K : z_K} (n : Nat) {v : Int32} {S' : z_Stt} (cx : z_C g M_X11_workOut 66 K) (ce : z_E' g M_X11_workOut (z_P g (some (.int v)) S') K) : ∀ (m : Nat) (x3 : Int32) (x4 : Int32) (x5 : Int32) (S : z_Stt) (h : f_X11_workOut_33 n m x3 x4 x5 S = some (v, S')), z_At g M_X11_workOut K 33 [some (.ref (z_ad g 48)), none, none, some (.int x3), some (.int x4), some (.int x5), none, none] [] (hp g S) := by
  intro m
  induction m with
  | zero => intro x3 x4 x5 S h; simp [f_X11_workOut_33] at h
  | succ m ih =>
    intro x3 x4 x5 S h
    rw [f_X11_workOut_33] at h
    refine z_iload cx rfl dX11_workOut_33 ?_
    refine z_if_eq (tgt := 107) cx (by decide) dX11_workOut_35 (fun c1 => ?_) (fun c1 => ?_)
    · have h := g_t c1 h
      refine z_aload_n cx rfl rfl dX11_workOut_107 ?_
      refine q_getI (k := 48) (n := 4820) cx z_cl11 (j := 20) (by decide) tb_390 rfl (by decide) rfl rfl rfl dX11_workOut_108 ?_
      refine z_if_ge (tgt := 130) cx (by decide) dX11_workOut_111 (fun c2 => ?_) (fun c2 => ?_)
      · have h := g_t c2 h
        refine z_iload cx rfl dX11_workOut_130 ?_
        obtain ⟨rfl, rfl⟩ := g_some h
        exact z_ireturn cx ce rfl ⟨rfl, rfl⟩ dX11_workOut_132
      · have h := g_f c2 h
        refine z_aload_n cx rfl rfl dX11_workOut_114 ?_
        refine q_getI (k := 48) (n := 4818) cx z_cl11 (j := 18) (by decide) tb_396 rfl (by decide) rfl rfl rfl dX11_workOut_115 ?_
        refine z_aload_n cx rfl rfl dX11_workOut_118 ?_
        refine q_getI (k := 48) (n := 4819) cx z_cl11 (j := 19) (by decide) tb_397 rfl (by decide) rfl rfl rfl dX11_workOut_119 ?_
        refine z_icmp_ge (tgt := 130) cx (by decide) dX11_workOut_122 (fun c3 => ?_) (fun c3 => ?_)
        · have h := g_t c3 h
          refine z_iload cx rfl dX11_workOut_130 ?_
          obtain ⟨rfl, rfl⟩ := g_some h
          exact z_ireturn cx ce rfl ⟨rfl, rfl⟩ dX11_workOut_132
        · have h := g_f c3 h
          refine z_aload_n cx rfl rfl dX11_workOut_125 ?_
          obtain ⟨v4, S5, e6, h⟩ := g_bd_ex h
          refine q_cvi (As := []) cx mo_X11_wrong mv_X11_wrong z_cl11 rfl tb_423 (by decide) rfl (by decide) rfl rfl (Nat.le_of_ble_eq_true rfl) dX11_workOut_126 (c_X11_wrong  _ e6) ?_
          obtain ⟨rfl, rfl⟩ := g_some h
          exact z_ireturn cx ce rfl ⟨rfl, rfl⟩ dX11_workOut_129
    · have h := g_f c1 h
      refine z_aload_n cx rfl rfl dX11_workOut_38 ?_
      obtain ⟨v7, S8, e9, h⟩ := g_bd_ex h
      refine q_cvi (As := []) cx mo_X11_either mv_X11_either z_cl11 rfl tb_399 (by decide) rfl (by decide) rfl rfl (Nat.le_of_ble_eq_true rfl) dX11_workOut_39 (cg_X11_either  _ e9) ?_
      refine z_istore (L' := [some (.ref (z_ad g 48)), none, none, some (.int x3), some (.int x4), some (.int x5), some (.int v7), none]) cx (by decide) rfl dX11_workOut_42 ?_
      refine z_iconst (v := 1) cx (by decide +kernel) dX11_workOut_44 ?_
      refine z_istore (L' := [some (.ref (z_ad g 48)), none, none, some (.int x3), some (.int x4), some (.int x5), some (.int v7), some (.int 1)]) cx (by decide) rfl dX11_workOut_45 ?_
      refine z_aload_n cx rfl rfl dX11_workOut_47 ?_
      refine z_bipush (v := 63) cx (by decide +kernel) dX11_workOut_48 ?_
      obtain ⟨v10, S11, e12, h⟩ := g_bd_ex h
      refine q_cvi (As := [.int 63]) cx mo_X11_takes mv_X11_takes z_cl11 rfl tb_406 (by decide) rfl (by decide) rfl rfl (Nat.le_of_ble_eq_true rfl) dX11_workOut_50 (c_X11_takes 63 _ e12) ?_
      refine q_ifb_eq (tgt := 74) cx (by decide) dX11_workOut_53 (fun c13 => ?_) (fun c13 => ?_)
      · have h := g_f (Bool.eq_false_iff.mp c13) h
        exact q_weak (z_wk_s (z_wk_n (z_wk_n (z_wk_s (z_wk_s (z_wk_n (z_wk_s (z_wk_s (z_wk_0))))))))) (t_X11_workOut_74 n cx ce (f_X11_workOut_33 n m) ih x3 x4 v7 1 S11 h)
      · have h := g_t c13 h
        refine z_iload cx rfl dX11_workOut_56 ?_
        refine z_if_eq (tgt := 65) cx (by decide) dX11_workOut_58 (fun c14 => ?_) (fun c14 => ?_)
        · have h := g_t c14 h
          refine z_iconst (v := 0) cx (by decide +kernel) dX11_workOut_65 ?_
          exact q_weak (z_wk_s (z_wk_n (z_wk_n (z_wk_s (z_wk_s (z_wk_n (z_wk_n (z_wk_n (z_wk_0))))))))) (t_X11_workOut_66 n cx ce (f_X11_workOut_33 n m) ih x3 x4 0 S11 h)
        · have h := g_f c14 h
          refine z_iconst (v := 1) cx (by decide +kernel) dX11_workOut_61 ?_
          refine z_goto (tgt := 66) cx (by decide) dX11_workOut_62 ?_
          exact q_weak (z_wk_s (z_wk_n (z_wk_n (z_wk_s (z_wk_s (z_wk_n (z_wk_n (z_wk_n (z_wk_0))))))))) (t_X11_workOut_66 n cx ce (f_X11_workOut_33 n m) ih x3 x4 1 S11 h)
def f_X11_workOut (n : Nat) (a0 : Int32) (a1 : Int32) (S : z_Stt) : Option (Int32 × z_Stt) :=
  g_let (sI S 4817 a0) fun S1 =>
  g_let (sI S1 4818 0) fun S3 =>
  g_let (sI S3 4819 a1) fun S5 =>
  g_let (sI S5 4820 (-1)) fun S7 =>
  g_let (sI S7 4821 0) fun S9 =>
  f_X11_workOut_33 n n 0 0 1 S9
set_option maxHeartbeats 4000000 in
set_option maxRecDepth 100000 in
theorem t_X11_workOut {g : z_G} {K : z_K} (n : Nat) {v : Int32} {S' : z_Stt} (cx : z_C g M_X11_workOut 66 K) (ce : z_E' g M_X11_workOut (z_P g (some (.int v)) S') K) (a0 : Int32) (a1 : Int32) (S : z_Stt) (h : f_X11_workOut n a0 a1 S = some (v, S')) : z_At g M_X11_workOut K 0 [some (.ref (z_ad g 48)), some (.int a0), some (.int a1), none, none, none, none, none] [] (hp g S) := by
  unfold f_X11_workOut at h
  refine z_aload_n cx rfl rfl dX11_workOut_0 ?_
  refine z_iload_n cx rfl rfl dX11_workOut_1 ?_
  refine q_putI (k := 48) (n := 4817) cx z_cl11 (j := 17) (by decide) tb_395 rfl rfl rfl (by decide) rfl rfl rfl (by decide) (by decide) dX11_workOut_2 ?_
  obtain ⟨S1, e2, h⟩ := g_let_ex h
  rw [← e2]
  refine z_aload_n cx rfl rfl dX11_workOut_5 ?_
  refine z_iconst (v := 0) cx (by decide +kernel) dX11_workOut_6 ?_
  refine q_putI (k := 48) (n := 4818) cx z_cl11 (j := 18) (by decide) tb_396 rfl rfl rfl (by decide) rfl rfl rfl (by decide) (by decide) dX11_workOut_7 ?_
  obtain ⟨S3, e4, h⟩ := g_let_ex h
  rw [← e4]
  refine z_aload_n cx rfl rfl dX11_workOut_10 ?_
  refine z_iload_n cx rfl rfl dX11_workOut_11 ?_
  refine q_putI (k := 48) (n := 4819) cx z_cl11 (j := 19) (by decide) tb_397 rfl rfl rfl (by decide) rfl rfl rfl (by decide) (by decide) dX11_workOut_12 ?_
  obtain ⟨S5, e6, h⟩ := g_let_ex h
  rw [← e6]
  refine z_aload_n cx rfl rfl dX11_workOut_15 ?_
  refine z_iconst (v := (-1)) cx (by decide +kernel) dX11_workOut_16 ?_
  refine q_putI (k := 48) (n := 4820) cx z_cl11 (j := 20) (by decide) tb_390 rfl rfl rfl (by decide) rfl rfl rfl (by decide) (by decide) dX11_workOut_17 ?_
  obtain ⟨S7, e8, h⟩ := g_let_ex h
  rw [← e8]
  refine z_aload_n cx rfl rfl dX11_workOut_20 ?_
  refine z_iconst (v := 0) cx (by decide +kernel) dX11_workOut_21 ?_
  refine q_putI (k := 48) (n := 4821) cx z_cl11 (j := 21) (by decide) tb_398 rfl rfl rfl (by decide) rfl rfl rfl (by decide) (by decide) dX11_workOut_22 ?_
  obtain ⟨S9, e10, h⟩ := g_let_ex h
  rw [← e10]
  refine z_iconst (v := 0) cx (by decide +kernel) dX11_workOut_25 ?_
  refine z_istore_n (L' := [some (.ref (z_ad g 48)), some (.int a0), some (.int a1), some (.int 0), none, none, none, none]) cx rfl (by decide) rfl dX11_workOut_26 ?_
  refine z_iconst (v := 0) cx (by decide +kernel) dX11_workOut_27 ?_
  refine z_istore (L' := [some (.ref (z_ad g 48)), some (.int a0), some (.int a1), some (.int 0), some (.int 0), none, none, none]) cx (by decide) rfl dX11_workOut_28 ?_
  refine z_iconst (v := 1) cx (by decide +kernel) dX11_workOut_30 ?_
  refine z_istore (L' := [some (.ref (z_ad g 48)), some (.int a0), some (.int a1), some (.int 0), some (.int 0), some (.int 1), none, none]) cx (by decide) rfl dX11_workOut_31 ?_
  exact q_weak (z_wk_s (z_wk_n (z_wk_n (z_wk_s (z_wk_s (z_wk_s (z_wk_n (z_wk_n (z_wk_0))))))))) (t_X11_workOut_33 n cx ce n 0 0 1 S9 h)
theorem c_X11_workOut {g : z_G} {n : Nat} (a0 : Int32) (a1 : Int32) (S : z_Stt) {v : Int32} {S' : z_Stt} (h : f_X11_workOut n a0 a1 S = some (v, S')) : z_Ct g M_X11_workOut 66 [.ref (z_ad g 48), .int a0, .int a1] (hp g S) (z_P g (some (.int v)) S') :=
  z_Ct.of (by decide +kernel) rfl (Nat.le_of_ble_eq_true rfl) (fun K cx ce => q_weak (L' := [some (.ref (z_ad g 48)), some (.int a0), some (.int a1), none, none, none, none, none]) (z_wk_s (z_wk_s (z_wk_s (z_wk_e (z_wk_e (z_wk_e (z_wk_e (z_wk_e (z_wk_0))))))))) (t_X11_workOut n cx ce a0 a1 S h))
abbrev M_X11_law : z_M := (RX11, yX11_law, cX11_law, 4, some .int)
theorem mo_X11_law : z_mo M_X11_law 0 := ⟨tb_389, tb_5, rfl, ⟨by decide +kernel, by decide +kernel⟩, by decide +kernel, by decide⟩
theorem mv_X11_law : z_mv M_X11_law := ⟨tb_387, tb_388⟩
def f_X11_law_37 (n : Nat) : Nat → Int32 → Int32 → z_Stt → Option (Int32 × z_Stt)
  | 0, _, _, _ => none
  | m + 1, x2, x3, S =>
    if x2 ≤ x3 then
      g_let (sI S 4816 x2) fun S2 =>
      some (1, S2)
    else
      if ¬ (x3 < 0 ∨ 120 ≤ x3.toNatClampNeg) then
        if ¬ (x3 < 0 ∨ 120 ≤ x3.toNatClampNeg) then
          g_let (sA S 56 (upd (S.2.2.1 56) x3.toNatClampNeg (S.2.2.1 55 x3.toNatClampNeg))) fun S6 =>
          f_X11_law_37 n m x2 (x3 + 1) S6
        else none
      else none
set_option maxHeartbeats 4000000 in
set_option maxRecDepth 100000 in
theorem t_X11_law_37 {g : z_G} {K : z_K} (n : Nat) {v : Int32} {S' : z_Stt} (cx : z_C g M_X11_law 67 K) (ce : z_E' g M_X11_law (z_P g (some (.int v)) S') K) : ∀ (m : Nat) (x2 : Int32) (x3 : Int32) (S : z_Stt) (h : f_X11_law_37 n m x2 x3 S = some (v, S')), z_At g M_X11_law K 37 [some (.ref (z_ad g 48)), none, some (.int x2), some (.int x3)] [] (hp g S) := by
  intro m
  induction m with
  | zero => intro x2 x3 S h; simp [f_X11_law_37] at h
  | succ m ih =>
    intro x2 x3 S h
    rw [f_X11_law_37] at h
    refine z_iload_n cx rfl rfl dX11_law_37 ?_
    refine z_iload_n cx rfl rfl dX11_law_38 ?_
    refine z_icmp_ge (tgt := 60) cx (by decide) dX11_law_39 (fun c1 => ?_) (fun c1 => ?_)
    · have h := g_t c1 h
      refine z_aload_n cx rfl rfl dX11_law_60 ?_
      refine z_iload_n cx rfl rfl dX11_law_61 ?_
      refine q_putI (k := 48) (n := 4816) cx z_cl11 (j := 16) (by decide) tb_163 rfl rfl rfl (by decide) rfl rfl rfl (by decide) (by decide) dX11_law_62 ?_
      obtain ⟨S2, e3, h⟩ := g_let_ex h
      rw [← e3]
      refine z_iconst (v := 1) cx (by decide +kernel) dX11_law_65 ?_
      obtain ⟨rfl, rfl⟩ := g_some h
      exact z_ireturn cx ce rfl ⟨rfl, rfl⟩ dX11_law_66
    · have h := g_f c1 h
      refine z_aload_n cx rfl rfl dX11_law_42 ?_
      refine q_getF (k := 48) (n := 56) (r := 8) cx z_cl11 (j := 15) (by decide) tb_149 rfl (by decide) rfl rfl rfl dX11_law_43 ?_
      refine z_iload_n cx rfl rfl dX11_law_46 ?_
      refine z_aload_n cx rfl rfl dX11_law_47 ?_
      refine q_getF (k := 48) (n := 55) (r := 7) cx z_cl11 (j := 13) (by decide) tb_148 rfl (by decide) rfl rfl rfl dX11_law_48 ?_
      refine z_iload_n cx rfl rfl dX11_law_51 ?_
      obtain ⟨c4, h⟩ := g_if h
      refine q_iald cx (by decide) rfl c4 dX11_law_52 ?_
      obtain ⟨c5, h⟩ := g_if h
      refine q_iast cx (by decide) rfl c5 dX11_law_53 ?_
      obtain ⟨S6, e7, h⟩ := g_let_ex h
      rw [← e7]
      refine z_iinc (c := 1) (L' := [some (.ref (z_ad g 48)), none, some (.int x2), some (.int (x3 + 1))]) cx rfl (by decide +kernel) (by decide) rfl dX11_law_54 ?_
      refine z_goto (tgt := 37) cx (by decide) dX11_law_57 ?_
      exact q_weak (z_wk_s (z_wk_n (z_wk_s (z_wk_s (z_wk_0))))) (ih x2 (x3 + 1) S6 h)
def f_X11_law (n : Nat) (S : z_Stt) : Option (Int32 × z_Stt) :=
  g_bd (f_X11_workOut n (-1) (S.1 4814) S) fun v1 S2 =>
  g_let (sI S2 4814 0) fun S4 =>
  if S4.1 4820 < 0 then
    f_X11_law_37 n n (S2.1 4814) 0 S4
  else
    some ((-100) - (S4.1 4820), S4)
set_option maxHeartbeats 4000000 in
set_option maxRecDepth 100000 in
theorem t_X11_law {g : z_G} {K : z_K} (n : Nat) {v : Int32} {S' : z_Stt} (cx : z_C g M_X11_law 67 K) (ce : z_E' g M_X11_law (z_P g (some (.int v)) S') K) (S : z_Stt) (h : f_X11_law n S = some (v, S')) : z_At g M_X11_law K 0 [some (.ref (z_ad g 48)), none, none, none] [] (hp g S) := by
  unfold f_X11_law at h
  refine z_aload_n cx rfl rfl dX11_law_0 ?_
  refine z_iconst (v := (-1)) cx (by decide +kernel) dX11_law_1 ?_
  refine z_aload_n cx rfl rfl dX11_law_2 ?_
  refine q_getI (k := 48) (n := 4814) cx z_cl11 (j := 14) (by decide) tb_327 rfl (by decide) rfl rfl rfl dX11_law_3 ?_
  obtain ⟨v1, S2, e3, h⟩ := g_bd_ex h
  refine q_cvi (As := [.int (-1), .int (S.1 4814)]) cx mo_X11_workOut mv_X11_workOut z_cl11 rfl tb_391 (by decide) rfl (by decide) rfl rfl (Nat.le_of_ble_eq_true rfl) dX11_law_6 (c_X11_workOut (-1) (S.1 4814) _ e3) ?_
  refine z_istore_n (L' := [some (.ref (z_ad g 48)), some (.int v1), none, none]) cx rfl (by decide) rfl dX11_law_9 ?_
  refine z_aload_n cx rfl rfl dX11_law_10 ?_
  refine q_getI (k := 48) (n := 4814) cx z_cl11 (j := 14) (by decide) tb_327 rfl (by decide) rfl rfl rfl dX11_law_11 ?_
  refine z_istore_n (L' := [some (.ref (z_ad g 48)), some (.int v1), some (.int (S2.1 4814)), none]) cx rfl (by decide) rfl dX11_law_14 ?_
  refine z_aload_n cx rfl rfl dX11_law_15 ?_
  refine z_iconst (v := 0) cx (by decide +kernel) dX11_law_16 ?_
  refine q_putI (k := 48) (n := 4814) cx z_cl11 (j := 14) (by decide) tb_327 rfl rfl rfl (by decide) rfl rfl rfl (by decide) (by decide) dX11_law_17 ?_
  obtain ⟨S4, e5, h⟩ := g_let_ex h
  rw [← e5]
  refine z_aload_n cx rfl rfl dX11_law_20 ?_
  refine q_getI (k := 48) (n := 4820) cx z_cl11 (j := 20) (by decide) tb_390 rfl (by decide) rfl rfl rfl dX11_law_21 ?_
  refine z_if_lt (tgt := 35) cx (by decide) dX11_law_24 (fun c6 => ?_) (fun c6 => ?_)
  · have h := g_t c6 h
    refine z_iconst (v := 0) cx (by decide +kernel) dX11_law_35 ?_
    refine z_istore_n (L' := [some (.ref (z_ad g 48)), some (.int v1), some (.int (S2.1 4814)), some (.int 0)]) cx rfl (by decide) rfl dX11_law_36 ?_
    exact q_weak (z_wk_s (z_wk_n (z_wk_s (z_wk_s (z_wk_0))))) (t_X11_law_37 n cx ce n (S2.1 4814) 0 S4 h)
  · have h := g_f c6 h
    refine z_bipush (v := (-100)) cx (by decide +kernel) dX11_law_27 ?_
    refine z_aload_n cx rfl rfl dX11_law_29 ?_
    refine q_getI (k := 48) (n := 4820) cx z_cl11 (j := 20) (by decide) tb_390 rfl (by decide) rfl rfl rfl dX11_law_30 ?_
    refine z_isub cx dX11_law_33 ?_
    obtain ⟨rfl, rfl⟩ := g_some h
    exact z_ireturn cx ce rfl ⟨rfl, rfl⟩ dX11_law_34
theorem c_X11_law {g : z_G} {n : Nat} (S : z_Stt) {v : Int32} {S' : z_Stt} (h : f_X11_law n S = some (v, S')) : z_Ct g M_X11_law 67 [.ref (z_ad g 48)] (hp g S) (z_P g (some (.int v)) S') :=
  z_Ct.of (by decide +kernel) rfl (Nat.le_of_ble_eq_true rfl) (fun K cx ce => q_weak (L' := [some (.ref (z_ad g 48)), none, none, none]) (z_wk_s (z_wk_e (z_wk_e (z_wk_e (z_wk_0))))) (t_X11_law n cx ce S h))
abbrev M_X11_goesBy : z_M := (RX11, yX11_goesBy, cX11_goesBy, 5, some .boolean)
theorem mo_X11_goesBy : z_mo M_X11_goesBy 4 := ⟨tb_680, tb_5, rfl, ⟨by decide +kernel, by decide +kernel⟩, by decide +kernel, by decide⟩
theorem mv_X11_goesBy : z_mv M_X11_goesBy := ⟨tb_678, tb_679⟩
def f_X11_goesBy (n : Nat) (a0 : Int32) (a1 : Int32) (a2 : Int32) (a3 : Int32) (S : z_Stt) : Option (Bool × z_Stt) :=
  if 0 ≤ S.1 4816 then
    if ¬ ((0 : Int32) < 0 ∨ 6 ≤ (0 : Int32).toNatClampNeg) then
      g_let (sA S 57 (upd (S.2.2.1 57) (0 : Int32).toNatClampNeg a0)) fun S3 =>
      if ¬ ((1 : Int32) < 0 ∨ 6 ≤ (1 : Int32).toNatClampNeg) then
        g_let (sA S3 57 (upd (S3.2.2.1 57) (1 : Int32).toNatClampNeg a1)) fun S6 =>
        if ¬ ((2 : Int32) < 0 ∨ 6 ≤ (2 : Int32).toNatClampNeg) then
          g_let (sA S6 57 (upd (S6.2.2.1 57) (2 : Int32).toNatClampNeg a2)) fun S9 =>
          if ¬ ((36 : Int32) < 0 ∨ 75 ≤ (36 : Int32).toNatClampNeg) then
            if ¬ ((3 : Int32) < 0 ∨ 6 ≤ (3 : Int32).toNatClampNeg) then
              g_let (sA S9 57 (upd (S9.2.2.1 57) (3 : Int32).toNatClampNeg (S9.2.2.1 49 (36 : Int32).toNatClampNeg))) fun S13 =>
              if ¬ ((4 : Int32) < 0 ∨ 6 ≤ (4 : Int32).toNatClampNeg) then
                g_let (sA S13 57 (upd (S13.2.2.1 57) (4 : Int32).toNatClampNeg (S13.1 4809))) fun S16 =>
                if ¬ ((5 : Int32) < 0 ∨ 6 ≤ (5 : Int32).toNatClampNeg) then
                  g_let (sA S16 57 (upd (S16.2.2.1 57) (5 : Int32).toNatClampNeg a3)) fun S19 =>
                  g_bd (f_X11_workOut n 0 (S19.1 4816) S19) fun v21 S22 =>
                  if v21 = 0 then
                    some (false, S22)
                  else
                    some (true, S22)
                else none
              else none
            else none
          else none
        else none
      else none
    else none
  else
    if ¬ ((36 : Int32) < 0 ∨ 75 ≤ (36 : Int32).toNatClampNeg) then
      if a0 * a1 ≤ (288 * a2) * (S.2.2.1 49 (36 : Int32).toNatClampNeg) then
        some (false, S)
      else
        some (true, S)
    else none
set_option maxHeartbeats 4000000 in
set_option maxRecDepth 100000 in
theorem t_X11_goesBy {g : z_G} {K : z_K} (n : Nat) {v : Bool} {S' : z_Stt} (cx : z_C g M_X11_goesBy 67 K) (ce : z_E' g M_X11_goesBy (z_P g (some (.int (bI v))) S') K) (a0 : Int32) (a1 : Int32) (a2 : Int32) (a3 : Int32) (S : z_Stt) (h : f_X11_goesBy n a0 a1 a2 a3 S = some (v, S')) : z_At g M_X11_goesBy K 0 [some (.ref (z_ad g 48)), some (.int a0), some (.int a1), some (.int a2), some (.int a3)] [] (hp g S) := by
  unfold f_X11_goesBy at h
  refine z_aload_n cx rfl rfl dX11_goesBy_0 ?_
  refine q_getI (k := 48) (n := 4816) cx z_cl11 (j := 16) (by decide) tb_163 rfl (by decide) rfl rfl rfl dX11_goesBy_1 ?_
  refine z_if_ge (tgt := 32) cx (by decide) dX11_goesBy_4 (fun c1 => ?_) (fun c1 => ?_)
  · have h := g_t c1 h
    refine z_aload_n cx rfl rfl dX11_goesBy_32 ?_
    refine q_getF (k := 48) (n := 57) (r := 9) cx z_cl11 (j := 22) (by decide) tb_150 rfl (by decide) rfl rfl rfl dX11_goesBy_33 ?_
    refine z_iconst (v := 0) cx (by decide +kernel) dX11_goesBy_36 ?_
    refine z_iload_n cx rfl rfl dX11_goesBy_37 ?_
    obtain ⟨c2, h⟩ := g_if h
    refine q_iast cx (by decide) rfl c2 dX11_goesBy_38 ?_
    obtain ⟨S3, e4, h⟩ := g_let_ex h
    rw [← e4]
    refine z_aload_n cx rfl rfl dX11_goesBy_39 ?_
    refine q_getF (k := 48) (n := 57) (r := 9) cx z_cl11 (j := 22) (by decide) tb_150 rfl (by decide) rfl rfl rfl dX11_goesBy_40 ?_
    refine z_iconst (v := 1) cx (by decide +kernel) dX11_goesBy_43 ?_
    refine z_iload_n cx rfl rfl dX11_goesBy_44 ?_
    obtain ⟨c5, h⟩ := g_if h
    refine q_iast cx (by decide) rfl c5 dX11_goesBy_45 ?_
    obtain ⟨S6, e7, h⟩ := g_let_ex h
    rw [← e7]
    refine z_aload_n cx rfl rfl dX11_goesBy_46 ?_
    refine q_getF (k := 48) (n := 57) (r := 9) cx z_cl11 (j := 22) (by decide) tb_150 rfl (by decide) rfl rfl rfl dX11_goesBy_47 ?_
    refine z_iconst (v := 2) cx (by decide +kernel) dX11_goesBy_50 ?_
    refine z_iload_n cx rfl rfl dX11_goesBy_51 ?_
    obtain ⟨c8, h⟩ := g_if h
    refine q_iast cx (by decide) rfl c8 dX11_goesBy_52 ?_
    obtain ⟨S9, e10, h⟩ := g_let_ex h
    rw [← e10]
    refine z_aload_n cx rfl rfl dX11_goesBy_53 ?_
    refine q_getF (k := 48) (n := 57) (r := 9) cx z_cl11 (j := 22) (by decide) tb_150 rfl (by decide) rfl rfl rfl dX11_goesBy_54 ?_
    refine z_iconst (v := 3) cx (by decide +kernel) dX11_goesBy_57 ?_
    refine z_aload_n cx rfl rfl dX11_goesBy_58 ?_
    refine q_getF (k := 48) (n := 49) (r := 1) cx z_cl11 (j := 0) (by decide) tb_141 rfl (by decide) rfl rfl rfl dX11_goesBy_59 ?_
    refine z_bipush (v := 36) cx (by decide +kernel) dX11_goesBy_62 ?_
    obtain ⟨c11, h⟩ := g_if h
    refine q_iald cx (by decide) rfl c11 dX11_goesBy_64 ?_
    obtain ⟨c12, h⟩ := g_if h
    refine q_iast cx (by decide) rfl c12 dX11_goesBy_65 ?_
    obtain ⟨S13, e14, h⟩ := g_let_ex h
    rw [← e14]
    refine z_aload_n cx rfl rfl dX11_goesBy_66 ?_
    refine q_getF (k := 48) (n := 57) (r := 9) cx z_cl11 (j := 22) (by decide) tb_150 rfl (by decide) rfl rfl rfl dX11_goesBy_67 ?_
    refine z_iconst (v := 4) cx (by decide +kernel) dX11_goesBy_70 ?_
    refine z_aload_n cx rfl rfl dX11_goesBy_71 ?_
    refine q_getI (k := 48) (n := 4809) cx z_cl11 (j := 9) (by decide) tb_311 rfl (by decide) rfl rfl rfl dX11_goesBy_72 ?_
    obtain ⟨c15, h⟩ := g_if h
    refine q_iast cx (by decide) rfl c15 dX11_goesBy_75 ?_
    obtain ⟨S16, e17, h⟩ := g_let_ex h
    rw [← e17]
    refine z_aload_n cx rfl rfl dX11_goesBy_76 ?_
    refine q_getF (k := 48) (n := 57) (r := 9) cx z_cl11 (j := 22) (by decide) tb_150 rfl (by decide) rfl rfl rfl dX11_goesBy_77 ?_
    refine z_iconst (v := 5) cx (by decide +kernel) dX11_goesBy_80 ?_
    refine z_iload cx rfl dX11_goesBy_81 ?_
    obtain ⟨c18, h⟩ := g_if h
    refine q_iast cx (by decide) rfl c18 dX11_goesBy_83 ?_
    obtain ⟨S19, e20, h⟩ := g_let_ex h
    rw [← e20]
    refine z_aload_n cx rfl rfl dX11_goesBy_84 ?_
    refine z_iconst (v := 0) cx (by decide +kernel) dX11_goesBy_85 ?_
    refine z_aload_n cx rfl rfl dX11_goesBy_86 ?_
    refine q_getI (k := 48) (n := 4816) cx z_cl11 (j := 16) (by decide) tb_163 rfl (by decide) rfl rfl rfl dX11_goesBy_87 ?_
    obtain ⟨v21, S22, e23, h⟩ := g_bd_ex h
    refine q_cvi (As := [.int 0, .int (S19.1 4816)]) cx mo_X11_workOut mv_X11_workOut z_cl11 rfl tb_391 (by decide) rfl (by decide) rfl rfl (Nat.le_of_ble_eq_true rfl) dX11_goesBy_90 (c_X11_workOut 0 (S19.1 4816) _ e23) ?_
    refine z_if_eq (tgt := 100) cx (by decide) dX11_goesBy_93 (fun c24 => ?_) (fun c24 => ?_)
    · have h := g_t c24 h
      refine z_iconst (v := 0) cx (by decide +kernel) dX11_goesBy_100 ?_
      obtain ⟨rfl, rfl⟩ := g_some h
      exact z_zreturn cx ce rfl (by decide +kernel) ⟨rfl, rfl⟩ dX11_goesBy_101
    · have h := g_f c24 h
      refine z_iconst (v := 1) cx (by decide +kernel) dX11_goesBy_96 ?_
      refine z_goto (tgt := 101) cx (by decide) dX11_goesBy_97 ?_
      obtain ⟨rfl, rfl⟩ := g_some h
      exact z_zreturn cx ce rfl (by decide +kernel) ⟨rfl, rfl⟩ dX11_goesBy_101
  · have h := g_f c1 h
    refine z_iload_n cx rfl rfl dX11_goesBy_7 ?_
    refine z_iload_n cx rfl rfl dX11_goesBy_8 ?_
    refine z_imul cx dX11_goesBy_9 ?_
    refine z_sipush (v := 288) cx (by decide +kernel) dX11_goesBy_10 ?_
    refine z_iload_n cx rfl rfl dX11_goesBy_13 ?_
    refine z_imul cx dX11_goesBy_14 ?_
    refine z_aload_n cx rfl rfl dX11_goesBy_15 ?_
    refine q_getF (k := 48) (n := 49) (r := 1) cx z_cl11 (j := 0) (by decide) tb_141 rfl (by decide) rfl rfl rfl dX11_goesBy_16 ?_
    refine z_bipush (v := 36) cx (by decide +kernel) dX11_goesBy_19 ?_
    obtain ⟨c25, h⟩ := g_if h
    refine q_iald cx (by decide) rfl c25 dX11_goesBy_21 ?_
    refine z_imul cx dX11_goesBy_22 ?_
    refine z_icmp_le (tgt := 30) cx (by decide) dX11_goesBy_23 (fun c26 => ?_) (fun c26 => ?_)
    · have h := g_t c26 h
      refine z_iconst (v := 0) cx (by decide +kernel) dX11_goesBy_30 ?_
      obtain ⟨rfl, rfl⟩ := g_some h
      exact z_zreturn cx ce rfl (by decide +kernel) ⟨rfl, rfl⟩ dX11_goesBy_31
    · have h := g_f c26 h
      refine z_iconst (v := 1) cx (by decide +kernel) dX11_goesBy_26 ?_
      refine z_goto (tgt := 31) cx (by decide) dX11_goesBy_27 ?_
      obtain ⟨rfl, rfl⟩ := g_some h
      exact z_zreturn cx ce rfl (by decide +kernel) ⟨rfl, rfl⟩ dX11_goesBy_31
theorem c_X11_goesBy {g : z_G} {n : Nat} (a0 : Int32) (a1 : Int32) (a2 : Int32) (a3 : Int32) (S : z_Stt) {v : Bool} {S' : z_Stt} (h : f_X11_goesBy n a0 a1 a2 a3 S = some (v, S')) : z_Ct g M_X11_goesBy 67 [.ref (z_ad g 48), .int a0, .int a1, .int a2, .int a3] (hp g S) (z_P g (some (.int (bI v))) S') :=
  z_Ct.of (by decide +kernel) rfl (Nat.le_of_ble_eq_true rfl) (fun K cx ce => q_weak (L' := [some (.ref (z_ad g 48)), some (.int a0), some (.int a1), some (.int a2), some (.int a3)]) (z_wk_s (z_wk_s (z_wk_s (z_wk_s (z_wk_s (z_wk_0)))))) (t_X11_goesBy n cx ce a0 a1 a2 a3 S h))
abbrev M_X11_partsOf : z_M := (RX11, yX11_partsOf, cX11_partsOf, 3, some .int)
theorem mo_X11_partsOf : z_mo M_X11_partsOf 2 := ⟨tb_886, tb_5, rfl, ⟨by decide +kernel, by decide +kernel⟩, by decide +kernel, by decide⟩
theorem mv_X11_partsOf : z_mv M_X11_partsOf := ⟨tb_884, tb_885⟩
def f_X11_partsOf (a0 : Int32) (a1 : Int32) (S : z_Stt) : Option (Int32 × z_Stt) :=
  g_bd (f_X11_asksOpen a0 a1 S) fun v1 S2 =>
  if v1 = true then
    if ¬ S2.2.1 4812 = 0 then
      some (Int64.toInt32 ((144 * (S2.2.1 4811)) / (S2.2.1 4812)), S2)
    else none
  else
    some (0, S2)
set_option maxHeartbeats 4000000 in
set_option maxRecDepth 100000 in
theorem t_X11_partsOf {g : z_G} {K : z_K} {v : Int32} {S' : z_Stt} (cx : z_C g M_X11_partsOf 3 K) (ce : z_E' g M_X11_partsOf (z_P g (some (.int v)) S') K) (a0 : Int32) (a1 : Int32) (S : z_Stt) (h : f_X11_partsOf a0 a1 S = some (v, S')) : z_At g M_X11_partsOf K 0 [some (.ref (z_ad g 48)), some (.int a0), some (.int a1)] [] (hp g S) := by
  unfold f_X11_partsOf at h
  refine z_aload_n cx rfl rfl dX11_partsOf_0 ?_
  refine z_iload_n cx rfl rfl dX11_partsOf_1 ?_
  refine z_iload_n cx rfl rfl dX11_partsOf_2 ?_
  obtain ⟨v1, S2, e3, h⟩ := g_bd_ex h
  refine q_cvi (As := [.int a0, .int a1]) cx mo_X11_asksOpen mv_X11_asksOpen z_cl11 rfl tb_492 (by decide) rfl (by decide) rfl rfl (Nat.le_of_ble_eq_true rfl) dX11_partsOf_3 (c_X11_asksOpen a0 a1 _ e3) ?_
  refine q_ifb_eq (tgt := 26) cx (by decide) dX11_partsOf_6 (fun c4 => ?_) (fun c4 => ?_)
  · have h := g_f (Bool.eq_false_iff.mp c4) h
    refine z_iconst (v := 0) cx (by decide +kernel) dX11_partsOf_26 ?_
    obtain ⟨rfl, rfl⟩ := g_some h
    exact z_ireturn cx ce rfl ⟨rfl, rfl⟩ dX11_partsOf_27
  · have h := g_t c4 h
    refine z_ldc2 cx tb_182 dX11_partsOf_9 ?_
    refine z_aload_n cx rfl rfl dX11_partsOf_12 ?_
    refine q_getJ (k := 48) (n := 4811) cx z_cl11 (j := 11) (by decide) tb_486 rfl (by decide) rfl rfl rfl dX11_partsOf_13 ?_
    refine z_lmul cx dX11_partsOf_16 ?_
    refine z_aload_n cx rfl rfl dX11_partsOf_17 ?_
    refine q_getJ (k := 48) (n := 4812) cx z_cl11 (j := 12) (by decide) tb_487 rfl (by decide) rfl rfl rfl dX11_partsOf_18 ?_
    obtain ⟨c5, h⟩ := g_if h
    refine z_ldiv cx c5 dX11_partsOf_21 ?_
    refine z_l2i cx dX11_partsOf_22 ?_
    refine z_goto (tgt := 27) cx (by decide) dX11_partsOf_23 ?_
    obtain ⟨rfl, rfl⟩ := g_some h
    exact z_ireturn cx ce rfl ⟨rfl, rfl⟩ dX11_partsOf_27
theorem c_X11_partsOf {g : z_G} (a0 : Int32) (a1 : Int32) (S : z_Stt) {v : Int32} {S' : z_Stt} (h : f_X11_partsOf a0 a1 S = some (v, S')) : z_Ct g M_X11_partsOf 3 [.ref (z_ad g 48), .int a0, .int a1] (hp g S) (z_P g (some (.int v)) S') :=
  z_Ct.of (by decide +kernel) rfl (Nat.le_of_ble_eq_true rfl) (fun K cx ce => q_weak (L' := [some (.ref (z_ad g 48)), some (.int a0), some (.int a1)]) (z_wk_s (z_wk_s (z_wk_s (z_wk_0)))) (t_X11_partsOf cx ce a0 a1 S h))
abbrev M_X11_isYards : z_M := (RX11, yX11_isYards, cX11_isYards, 2, some .boolean)
theorem mo_X11_isYards : z_mo M_X11_isYards 1 := ⟨tb_546, tb_5, rfl, ⟨by decide +kernel, by decide +kernel⟩, by decide +kernel, by decide⟩
theorem ms_X11_isYards : z_ms M_X11_isYards := tb_545
def f_X11_isYards (a0 : Int64) (S : z_Stt) : Option (Bool × z_Stt) :=
  g_bd (f_X11_within a0 0 99 S) fun v1 S2 =>
  some (v1, S2)
set_option maxHeartbeats 4000000 in
set_option maxRecDepth 100000 in
theorem t_X11_isYards {g : z_G} {K : z_K} {v : Bool} {S' : z_Stt} (cx : z_C g M_X11_isYards 1 K) (ce : z_E' g M_X11_isYards (z_P g (some (.int (bI v))) S') K) (a0 : Int64) (S : z_Stt) (h : f_X11_isYards a0 S = some (v, S')) : z_At g M_X11_isYards K 0 [some (.long a0), none] [] (hp g S) := by
  unfold f_X11_isYards at h
  refine z_lload_n cx rfl rfl dX11_isYards_0 ?_
  refine z_lconst (v := 0) cx (by decide +kernel) dX11_isYards_1 ?_
  refine z_ldc2 cx tb_547 dX11_isYards_2 ?_
  obtain ⟨v1, S2, e3, h⟩ := g_bd_ex h
  refine q_csi (As := [.long a0, .long 0, .long 99]) cx mo_X11_within ms_X11_within tb_185 (by decide) rfl rfl (Nat.le_of_ble_eq_true rfl) dX11_isYards_5 (c_X11_within a0 0 99 _ e3) ?_
  obtain ⟨rfl, rfl⟩ := g_some h
  exact z_zreturn cx ce rfl (bI_nar _) ⟨rfl, rfl⟩ dX11_isYards_8
theorem c_X11_isYards {g : z_G} (a0 : Int64) (S : z_Stt) {v : Bool} {S' : z_Stt} (h : f_X11_isYards a0 S = some (v, S')) : z_Ct g M_X11_isYards 1 [.long a0] (hp g S) (z_P g (some (.int (bI v))) S') :=
  z_Ct.of (by decide +kernel) rfl (Nat.le_of_ble_eq_true rfl) (fun K cx ce => q_weak (L' := [some (.long a0), none]) (z_wk_s (z_wk_n (z_wk_0))) (t_X11_isYards cx ce a0 S h))
abbrev M_X11_backCosts : z_M := (RX11, yX11_backCosts, cX11_backCosts, 2, some .int)
theorem mo_X11_backCosts : z_mo M_X11_backCosts 1 := ⟨tb_555, tb_5, rfl, ⟨by decide +kernel, by decide +kernel⟩, by decide +kernel, by decide⟩
theorem mv_X11_backCosts : z_mv M_X11_backCosts := ⟨tb_553, tb_554⟩
def f_X11_backCosts (a0 : Int32) (S : z_Stt) : Option (Int32 × z_Stt) :=
  if ¬ ((36 : Int32) < 0 ∨ 75 ≤ (36 : Int32).toNatClampNeg) then
    some ((2 * a0) * (S.2.2.1 49 (36 : Int32).toNatClampNeg), S)
  else none
set_option maxHeartbeats 4000000 in
set_option maxRecDepth 100000 in
theorem t_X11_backCosts {g : z_G} {K : z_K} {v : Int32} {S' : z_Stt} (cx : z_C g M_X11_backCosts 0 K) (ce : z_E' g M_X11_backCosts (z_P g (some (.int v)) S') K) (a0 : Int32) (S : z_Stt) (h : f_X11_backCosts a0 S = some (v, S')) : z_At g M_X11_backCosts K 0 [some (.ref (z_ad g 48)), some (.int a0)] [] (hp g S) := by
  unfold f_X11_backCosts at h
  refine z_iconst (v := 2) cx (by decide +kernel) dX11_backCosts_0 ?_
  refine z_iload_n cx rfl rfl dX11_backCosts_1 ?_
  refine z_imul cx dX11_backCosts_2 ?_
  refine z_aload_n cx rfl rfl dX11_backCosts_3 ?_
  refine q_getF (k := 48) (n := 49) (r := 1) cx z_cl11 (j := 0) (by decide) tb_141 rfl (by decide) rfl rfl rfl dX11_backCosts_4 ?_
  refine z_bipush (v := 36) cx (by decide +kernel) dX11_backCosts_7 ?_
  obtain ⟨c1, h⟩ := g_if h
  refine q_iald cx (by decide) rfl c1 dX11_backCosts_9 ?_
  refine z_imul cx dX11_backCosts_10 ?_
  obtain ⟨rfl, rfl⟩ := g_some h
  exact z_ireturn cx ce rfl ⟨rfl, rfl⟩ dX11_backCosts_11
theorem c_X11_backCosts {g : z_G} (a0 : Int32) (S : z_Stt) {v : Int32} {S' : z_Stt} (h : f_X11_backCosts a0 S = some (v, S')) : z_Ct g M_X11_backCosts 0 [.ref (z_ad g 48), .int a0] (hp g S) (z_P g (some (.int v)) S') :=
  z_Ct.of (by decide +kernel) rfl (Nat.le_of_ble_eq_true rfl) (fun K cx ce => q_weak (L' := [some (.ref (z_ad g 48)), some (.int a0)]) (z_wk_s (z_wk_s (z_wk_0))) (t_X11_backCosts cx ce a0 S h))
abbrev M_X11_isTr : z_M := (RX11, yX11_isTr, cX11_isTr, 2, some .boolean)
theorem mo_X11_isTr : z_mo M_X11_isTr 1 := ⟨tb_543, tb_5, rfl, ⟨by decide +kernel, by decide +kernel⟩, by decide +kernel, by decide⟩
theorem mv_X11_isTr : z_mv M_X11_isTr := ⟨tb_541, tb_542⟩
def f_X11_isTr (a0 : Int32) (S : z_Stt) : Option (Bool × z_Stt) :=
  if a0 < 0 then
    some (false, S)
  else
    g_bd (f_X11_isThing (Int32.toInt64 (a0 / 10)) S) fun v2 S3 =>
    if v2 = true then
      if 3 ≤ a0 % 10 then
        some (false, S3)
      else
        some (true, S3)
    else
      some (false, S3)
set_option maxHeartbeats 4000000 in
set_option maxRecDepth 100000 in
theorem t_X11_isTr {g : z_G} {K : z_K} {v : Bool} {S' : z_Stt} (cx : z_C g M_X11_isTr 2 K) (ce : z_E' g M_X11_isTr (z_P g (some (.int (bI v))) S') K) (a0 : Int32) (S : z_Stt) (h : f_X11_isTr a0 S = some (v, S')) : z_At g M_X11_isTr K 0 [some (.ref (z_ad g 48)), some (.int a0)] [] (hp g S) := by
  unfold f_X11_isTr at h
  refine z_iload_n cx rfl rfl dX11_isTr_0 ?_
  refine z_if_lt (tgt := 28) cx (by decide) dX11_isTr_1 (fun c1 => ?_) (fun c1 => ?_)
  · have h := g_t c1 h
    refine z_iconst (v := 0) cx (by decide +kernel) dX11_isTr_28 ?_
    obtain ⟨rfl, rfl⟩ := g_some h
    exact z_zreturn cx ce rfl (by decide +kernel) ⟨rfl, rfl⟩ dX11_isTr_29
  · have h := g_f c1 h
    refine z_aload_n cx rfl rfl dX11_isTr_4 ?_
    refine z_iload_n cx rfl rfl dX11_isTr_5 ?_
    refine z_bipush (v := 10) cx (by decide +kernel) dX11_isTr_6 ?_
    refine z_idiv cx (by decide +kernel) dX11_isTr_8 ?_
    refine z_i2l cx dX11_isTr_9 ?_
    obtain ⟨v2, S3, e4, h⟩ := g_bd_ex h
    refine q_cvi (As := [.long (Int32.toInt64 (a0 / 10))]) cx mo_X11_isThing mv_X11_isThing z_cl11 rfl tb_274 (by decide) rfl (by decide) rfl rfl (Nat.le_of_ble_eq_true rfl) dX11_isTr_10 (c_X11_isThing (Int32.toInt64 (a0 / 10)) _ e4) ?_
    refine q_ifb_eq (tgt := 28) cx (by decide) dX11_isTr_13 (fun c5 => ?_) (fun c5 => ?_)
    · have h := g_f (Bool.eq_false_iff.mp c5) h
      refine z_iconst (v := 0) cx (by decide +kernel) dX11_isTr_28 ?_
      obtain ⟨rfl, rfl⟩ := g_some h
      exact z_zreturn cx ce rfl (by decide +kernel) ⟨rfl, rfl⟩ dX11_isTr_29
    · have h := g_t c5 h
      refine z_iload_n cx rfl rfl dX11_isTr_16 ?_
      refine z_bipush (v := 10) cx (by decide +kernel) dX11_isTr_17 ?_
      refine z_irem cx (by decide +kernel) dX11_isTr_19 ?_
      refine z_iconst (v := 3) cx (by decide +kernel) dX11_isTr_20 ?_
      refine z_icmp_ge (tgt := 28) cx (by decide) dX11_isTr_21 (fun c6 => ?_) (fun c6 => ?_)
      · have h := g_t c6 h
        refine z_iconst (v := 0) cx (by decide +kernel) dX11_isTr_28 ?_
        obtain ⟨rfl, rfl⟩ := g_some h
        exact z_zreturn cx ce rfl (by decide +kernel) ⟨rfl, rfl⟩ dX11_isTr_29
      · have h := g_f c6 h
        refine z_iconst (v := 1) cx (by decide +kernel) dX11_isTr_24 ?_
        refine z_goto (tgt := 29) cx (by decide) dX11_isTr_25 ?_
        obtain ⟨rfl, rfl⟩ := g_some h
        exact z_zreturn cx ce rfl (by decide +kernel) ⟨rfl, rfl⟩ dX11_isTr_29
theorem c_X11_isTr {g : z_G} (a0 : Int32) (S : z_Stt) {v : Bool} {S' : z_Stt} (h : f_X11_isTr a0 S = some (v, S')) : z_Ct g M_X11_isTr 2 [.ref (z_ad g 48), .int a0] (hp g S) (z_P g (some (.int (bI v))) S') :=
  z_Ct.of (by decide +kernel) rfl (Nat.le_of_ble_eq_true rfl) (fun K cx ce => q_weak (L' := [some (.ref (z_ad g 48)), some (.int a0)]) (z_wk_s (z_wk_s (z_wk_0))) (t_X11_isTr cx ce a0 S h))
abbrev M_X11_worthWays : z_M := (RX11, yX11_worthWays, cX11_worthWays, 3, some .long)
theorem mo_X11_worthWays : z_mo M_X11_worthWays 2 := ⟨tb_551, tb_5, rfl, ⟨by decide +kernel, by decide +kernel⟩, by decide +kernel, by decide⟩
theorem mv_X11_worthWays : z_mv M_X11_worthWays := ⟨tb_549, tb_550⟩
def f_X11_worthWays (a0 : Int32) (a1 : Int32) (S : z_Stt) : Option (Int64 × z_Stt) :=
  g_bd (f_X11_asksOpen (a0 / 10) (a0 % 10) S) fun v1 S2 =>
  g_bd (f_X11_numberOf (a0 / 10) 3 S2) fun v4 S5 =>
  g_bd (f_X11_backCosts a1 S5) fun v7 S8 =>
  some (((S2.2.1 4811) * (Int32.toInt64 v4)) - ((Int32.toInt64 v7) * (S8.2.1 4812)), S8)
set_option maxHeartbeats 4000000 in
set_option maxRecDepth 100000 in
theorem t_X11_worthWays {g : z_G} {K : z_K} {v : Int64} {S' : z_Stt} (cx : z_C g M_X11_worthWays 3 K) (ce : z_E' g M_X11_worthWays (z_P g (some (.long v)) S') K) (a0 : Int32) (a1 : Int32) (S : z_Stt) (h : f_X11_worthWays a0 a1 S = some (v, S')) : z_At g M_X11_worthWays K 0 [some (.ref (z_ad g 48)), some (.int a0), some (.int a1)] [] (hp g S) := by
  unfold f_X11_worthWays at h
  refine z_aload_n cx rfl rfl dX11_worthWays_0 ?_
  refine z_iload_n cx rfl rfl dX11_worthWays_1 ?_
  refine z_bipush (v := 10) cx (by decide +kernel) dX11_worthWays_2 ?_
  refine z_idiv cx (by decide +kernel) dX11_worthWays_4 ?_
  refine z_iload_n cx rfl rfl dX11_worthWays_5 ?_
  refine z_bipush (v := 10) cx (by decide +kernel) dX11_worthWays_6 ?_
  refine z_irem cx (by decide +kernel) dX11_worthWays_8 ?_
  obtain ⟨v1, S2, e3, h⟩ := g_bd_ex h
  refine q_cvi (As := [.int (a0 / 10), .int (a0 % 10)]) cx mo_X11_asksOpen mv_X11_asksOpen z_cl11 rfl tb_492 (by decide) rfl (by decide) rfl rfl (Nat.le_of_ble_eq_true rfl) dX11_worthWays_9 (c_X11_asksOpen (a0 / 10) (a0 % 10) _ e3) ?_
  refine z_pop cx rfl dX11_worthWays_12 ?_
  refine z_aload_n cx rfl rfl dX11_worthWays_13 ?_
  refine q_getJ (k := 48) (n := 4811) cx z_cl11 (j := 11) (by decide) tb_486 rfl (by decide) rfl rfl rfl dX11_worthWays_14 ?_
  refine z_aload_n cx rfl rfl dX11_worthWays_17 ?_
  refine z_iload_n cx rfl rfl dX11_worthWays_18 ?_
  refine z_bipush (v := 10) cx (by decide +kernel) dX11_worthWays_19 ?_
  refine z_idiv cx (by decide +kernel) dX11_worthWays_21 ?_
  refine z_iconst (v := 3) cx (by decide +kernel) dX11_worthWays_22 ?_
  obtain ⟨v4, S5, e6, h⟩ := g_bd_ex h
  refine q_cvi (As := [.int (a0 / 10), .int 3]) cx mo_X11_numberOf mv_X11_numberOf z_cl11 rfl tb_496 (by decide) rfl (by decide) rfl rfl (Nat.le_of_ble_eq_true rfl) dX11_worthWays_23 (c_X11_numberOf (a0 / 10) 3 _ e6) ?_
  refine z_i2l cx dX11_worthWays_26 ?_
  refine z_lmul cx dX11_worthWays_27 ?_
  refine z_aload_n cx rfl rfl dX11_worthWays_28 ?_
  refine z_iload_n cx rfl rfl dX11_worthWays_29 ?_
  obtain ⟨v7, S8, e9, h⟩ := g_bd_ex h
  refine q_cvi (As := [.int a1]) cx mo_X11_backCosts mv_X11_backCosts z_cl11 rfl tb_552 (by decide) rfl (by decide) rfl rfl (Nat.le_of_ble_eq_true rfl) dX11_worthWays_30 (c_X11_backCosts a1 _ e9) ?_
  refine z_i2l cx dX11_worthWays_33 ?_
  refine z_aload_n cx rfl rfl dX11_worthWays_34 ?_
  refine q_getJ (k := 48) (n := 4812) cx z_cl11 (j := 12) (by decide) tb_487 rfl (by decide) rfl rfl rfl dX11_worthWays_35 ?_
  refine z_lmul cx dX11_worthWays_38 ?_
  refine z_lsub cx dX11_worthWays_39 ?_
  obtain ⟨rfl, rfl⟩ := g_some h
  exact z_lreturn cx ce rfl ⟨rfl, rfl⟩ dX11_worthWays_40
theorem c_X11_worthWays {g : z_G} (a0 : Int32) (a1 : Int32) (S : z_Stt) {v : Int64} {S' : z_Stt} (h : f_X11_worthWays a0 a1 S = some (v, S')) : z_Ct g M_X11_worthWays 3 [.ref (z_ad g 48), .int a0, .int a1] (hp g S) (z_P g (some (.long v)) S') :=
  z_Ct.of (by decide +kernel) rfl (Nat.le_of_ble_eq_true rfl) (fun K cx ce => q_weak (L' := [some (.ref (z_ad g 48)), some (.int a0), some (.int a1)]) (z_wk_s (z_wk_s (z_wk_s (z_wk_0)))) (t_X11_worthWays cx ce a0 a1 S h))
abbrev M_X11_pays : z_M := (RX11, yX11_pays, cX11_pays, 5, some .int)
theorem mo_X11_pays : z_mo M_X11_pays 2 := ⟨tb_539, tb_5, rfl, ⟨by decide +kernel, by decide +kernel⟩, by decide +kernel, by decide⟩
theorem mv_X11_pays : z_mv M_X11_pays := ⟨tb_537, tb_538⟩
def f_X11_pays (a0 : Int32) (a1 : Int32) (S : z_Stt) : Option (Int32 × z_Stt) :=
  g_bd (f_X11_isTr a0 S) fun v1 S2 =>
  if v1 = true then
    g_bd (f_X11_isYards (Int32.toInt64 a1) S2) fun v5 S6 =>
    if v5 = true then
      g_bd (f_X11_worthWays a0 a1 S6) fun v9 S10 =>
      if lg_cmp (S10.2.1 4812) 0 = 0 then
        some ((-2), S10)
      else
        if lg_cmp v9 0 ≤ 0 then
          some (0, S10)
        else
          some (1, S10)
    else
      some ((-1), S6)
  else
    some ((-1), S2)
set_option maxHeartbeats 4000000 in
set_option maxRecDepth 100000 in
theorem t_X11_pays {g : z_G} {K : z_K} {v : Int32} {S' : z_Stt} (cx : z_C g M_X11_pays 4 K) (ce : z_E' g M_X11_pays (z_P g (some (.int v)) S') K) (a0 : Int32) (a1 : Int32) (S : z_Stt) (h : f_X11_pays a0 a1 S = some (v, S')) : z_At g M_X11_pays K 0 [some (.ref (z_ad g 48)), some (.int a0), some (.int a1), none, none] [] (hp g S) := by
  unfold f_X11_pays at h
  refine z_aload_n cx rfl rfl dX11_pays_0 ?_
  refine z_iload_n cx rfl rfl dX11_pays_1 ?_
  obtain ⟨v1, S2, e3, h⟩ := g_bd_ex h
  refine q_cvi (As := [.int a0]) cx mo_X11_isTr mv_X11_isTr z_cl11 rfl tb_540 (by decide) rfl (by decide) rfl rfl (Nat.le_of_ble_eq_true rfl) dX11_pays_2 (c_X11_isTr a0 _ e3) ?_
  refine q_ifb_eq (tgt := 16) cx (by decide) dX11_pays_5 (fun c4 => ?_) (fun c4 => ?_)
  · have h := g_f (Bool.eq_false_iff.mp c4) h
    refine z_iconst (v := (-1)) cx (by decide +kernel) dX11_pays_16 ?_
    obtain ⟨rfl, rfl⟩ := g_some h
    exact z_ireturn cx ce rfl ⟨rfl, rfl⟩ dX11_pays_17
  · have h := g_t c4 h
    refine z_iload_n cx rfl rfl dX11_pays_8 ?_
    refine z_i2l cx dX11_pays_9 ?_
    obtain ⟨v5, S6, e7, h⟩ := g_bd_ex h
    refine q_csi (As := [.long (Int32.toInt64 a1)]) cx mo_X11_isYards ms_X11_isYards tb_544 (by decide) rfl rfl (Nat.le_of_ble_eq_true rfl) dX11_pays_10 (c_X11_isYards (Int32.toInt64 a1) _ e7) ?_
    refine q_ifb_ne (tgt := 18) cx (by decide) dX11_pays_13 (fun c8 => ?_) (fun c8 => ?_)
    · have h := g_t c8 h
      refine z_aload_n cx rfl rfl dX11_pays_18 ?_
      refine z_iload_n cx rfl rfl dX11_pays_19 ?_
      refine z_iload_n cx rfl rfl dX11_pays_20 ?_
      obtain ⟨v9, S10, e11, h⟩ := g_bd_ex h
      refine q_cvl (As := [.int a0, .int a1]) cx mo_X11_worthWays mv_X11_worthWays z_cl11 rfl tb_548 (by decide) rfl (by decide) rfl rfl (Nat.le_of_ble_eq_true rfl) dX11_pays_21 (c_X11_worthWays a0 a1 _ e11) ?_
      refine z_lstore_n (L' := [some (.ref (z_ad g 48)), some (.int a0), some (.int a1), some (.long v9), none]) cx rfl (by decide) rfl dX11_pays_24 ?_
      refine z_aload_n cx rfl rfl dX11_pays_25 ?_
      refine q_getJ (k := 48) (n := 4812) cx z_cl11 (j := 12) (by decide) tb_487 rfl (by decide) rfl rfl rfl dX11_pays_26 ?_
      refine z_lconst (v := 0) cx (by decide +kernel) dX11_pays_29 ?_
      refine z_lcmp cx dX11_pays_30 ?_
      refine z_if_ne (tgt := 39) cx (by decide) dX11_pays_31 (fun c12 => ?_) (fun c12 => ?_)
      · have h := g_f c12 h
        refine z_lload_n cx rfl rfl dX11_pays_39 ?_
        refine z_lconst (v := 0) cx (by decide +kernel) dX11_pays_40 ?_
        refine z_lcmp cx dX11_pays_41 ?_
        refine z_if_le (tgt := 49) cx (by decide) dX11_pays_42 (fun c13 => ?_) (fun c13 => ?_)
        · have h := g_t c13 h
          refine z_iconst (v := 0) cx (by decide +kernel) dX11_pays_49 ?_
          obtain ⟨rfl, rfl⟩ := g_some h
          exact z_ireturn cx ce rfl ⟨rfl, rfl⟩ dX11_pays_50
        · have h := g_f c13 h
          refine z_iconst (v := 1) cx (by decide +kernel) dX11_pays_45 ?_
          refine z_goto (tgt := 50) cx (by decide) dX11_pays_46 ?_
          obtain ⟨rfl, rfl⟩ := g_some h
          exact z_ireturn cx ce rfl ⟨rfl, rfl⟩ dX11_pays_50
      · have h := g_t c12 h
        refine z_bipush (v := (-2)) cx (by decide +kernel) dX11_pays_34 ?_
        refine z_goto (tgt := 50) cx (by decide) dX11_pays_36 ?_
        obtain ⟨rfl, rfl⟩ := g_some h
        exact z_ireturn cx ce rfl ⟨rfl, rfl⟩ dX11_pays_50
    · have h := g_f (Bool.eq_false_iff.mp c8) h
      refine z_iconst (v := (-1)) cx (by decide +kernel) dX11_pays_16 ?_
      obtain ⟨rfl, rfl⟩ := g_some h
      exact z_ireturn cx ce rfl ⟨rfl, rfl⟩ dX11_pays_17
theorem c_X11_pays {g : z_G} (a0 : Int32) (a1 : Int32) (S : z_Stt) {v : Int32} {S' : z_Stt} (h : f_X11_pays a0 a1 S = some (v, S')) : z_Ct g M_X11_pays 4 [.ref (z_ad g 48), .int a0, .int a1] (hp g S) (z_P g (some (.int v)) S') :=
  z_Ct.of (by decide +kernel) rfl (Nat.le_of_ble_eq_true rfl) (fun K cx ce => q_weak (L' := [some (.ref (z_ad g 48)), some (.int a0), some (.int a1), none, none]) (z_wk_s (z_wk_s (z_wk_s (z_wk_e (z_wk_e (z_wk_0)))))) (t_X11_pays cx ce a0 a1 S h))
abbrev M_X11_worth : z_M := (RX11, yX11_worth, cX11_worth, 6, some .long)
theorem mo_X11_worth : z_mo M_X11_worth 3 := ⟨tb_563, tb_5, rfl, ⟨by decide +kernel, by decide +kernel⟩, by decide +kernel, by decide⟩
theorem mv_X11_worth : z_mv M_X11_worth := ⟨tb_561, tb_562⟩
def f_X11_worth (n : Nat) (a0 : Int32) (a1 : Int32) (a2 : Int32) (S : z_Stt) : Option (Int64 × z_Stt) :=
  g_bd (f_X11_isTr a0 S) fun v1 S2 =>
  if v1 = true then
    g_bd (f_X11_isYards (Int32.toInt64 a1) S2) fun v5 S6 =>
    if v5 = true then
      g_bd (f_X11_isPart a2 S6) fun v9 S10 =>
      if v9 = true then
        g_bd (f_X11_worthWays a0 a1 S10) fun v13 S14 =>
        if lg_cmp (S14.2.1 4812) 0 = 0 then
          some ((-2), S14)
        else
          g_bd (f_X11_partOf n v13 (S14.2.1 4812) a2 S14) fun v17 S18 =>
          some (v17, S18)
      else
        some ((-9223372036854775808), S10)
    else
      some ((-9223372036854775808), S6)
  else
    some ((-9223372036854775808), S2)
set_option maxHeartbeats 4000000 in
set_option maxRecDepth 100000 in
theorem t_X11_worth {g : z_G} {K : z_K} (n : Nat) {v : Int64} {S' : z_Stt} (cx : z_C g M_X11_worth 4 K) (ce : z_E' g M_X11_worth (z_P g (some (.long v)) S') K) (a0 : Int32) (a1 : Int32) (a2 : Int32) (S : z_Stt) (h : f_X11_worth n a0 a1 a2 S = some (v, S')) : z_At g M_X11_worth K 0 [some (.ref (z_ad g 48)), some (.int a0), some (.int a1), some (.int a2), none, none] [] (hp g S) := by
  unfold f_X11_worth at h
  refine z_aload_n cx rfl rfl dX11_worth_0 ?_
  refine z_iload_n cx rfl rfl dX11_worth_1 ?_
  obtain ⟨v1, S2, e3, h⟩ := g_bd_ex h
  refine q_cvi (As := [.int a0]) cx mo_X11_isTr mv_X11_isTr z_cl11 rfl tb_540 (by decide) rfl (by decide) rfl rfl (Nat.le_of_ble_eq_true rfl) dX11_worth_2 (c_X11_isTr a0 _ e3) ?_
  refine q_ifb_eq (tgt := 23) cx (by decide) dX11_worth_5 (fun c4 => ?_) (fun c4 => ?_)
  · have h := g_f (Bool.eq_false_iff.mp c4) h
    refine z_ldc2 cx tb_485 dX11_worth_23 ?_
    obtain ⟨rfl, rfl⟩ := g_some h
    exact z_lreturn cx ce rfl ⟨rfl, rfl⟩ dX11_worth_26
  · have h := g_t c4 h
    refine z_iload_n cx rfl rfl dX11_worth_8 ?_
    refine z_i2l cx dX11_worth_9 ?_
    obtain ⟨v5, S6, e7, h⟩ := g_bd_ex h
    refine q_csi (As := [.long (Int32.toInt64 a1)]) cx mo_X11_isYards ms_X11_isYards tb_544 (by decide) rfl rfl (Nat.le_of_ble_eq_true rfl) dX11_worth_10 (c_X11_isYards (Int32.toInt64 a1) _ e7) ?_
    refine q_ifb_eq (tgt := 23) cx (by decide) dX11_worth_13 (fun c8 => ?_) (fun c8 => ?_)
    · have h := g_f (Bool.eq_false_iff.mp c8) h
      refine z_ldc2 cx tb_485 dX11_worth_23 ?_
      obtain ⟨rfl, rfl⟩ := g_some h
      exact z_lreturn cx ce rfl ⟨rfl, rfl⟩ dX11_worth_26
    · have h := g_t c8 h
      refine z_iload_n cx rfl rfl dX11_worth_16 ?_
      obtain ⟨v9, S10, e11, h⟩ := g_bd_ex h
      refine q_csi (As := [.int a2]) cx mo_X11_isPart ms_X11_isPart tb_489 (by decide) rfl rfl (Nat.le_of_ble_eq_true rfl) dX11_worth_17 (c_X11_isPart a2 _ e11) ?_
      refine q_ifb_ne (tgt := 27) cx (by decide) dX11_worth_20 (fun c12 => ?_) (fun c12 => ?_)
      · have h := g_t c12 h
        refine z_aload_n cx rfl rfl dX11_worth_27 ?_
        refine z_iload_n cx rfl rfl dX11_worth_28 ?_
        refine z_iload_n cx rfl rfl dX11_worth_29 ?_
        obtain ⟨v13, S14, e15, h⟩ := g_bd_ex h
        refine q_cvl (As := [.int a0, .int a1]) cx mo_X11_worthWays mv_X11_worthWays z_cl11 rfl tb_548 (by decide) rfl (by decide) rfl rfl (Nat.le_of_ble_eq_true rfl) dX11_worth_30 (c_X11_worthWays a0 a1 _ e15) ?_
        refine z_lstore (L' := [some (.ref (z_ad g 48)), some (.int a0), some (.int a1), some (.int a2), some (.long v13), none]) cx (by decide) rfl dX11_worth_33 ?_
        refine z_aload_n cx rfl rfl dX11_worth_35 ?_
        refine q_getJ (k := 48) (n := 4812) cx z_cl11 (j := 12) (by decide) tb_487 rfl (by decide) rfl rfl rfl dX11_worth_36 ?_
        refine z_lconst (v := 0) cx (by decide +kernel) dX11_worth_39 ?_
        refine z_lcmp cx dX11_worth_40 ?_
        refine z_if_ne (tgt := 50) cx (by decide) dX11_worth_41 (fun c16 => ?_) (fun c16 => ?_)
        · have h := g_f c16 h
          refine z_lload cx rfl dX11_worth_50 ?_
          refine z_aload_n cx rfl rfl dX11_worth_52 ?_
          refine q_getJ (k := 48) (n := 4812) cx z_cl11 (j := 12) (by decide) tb_487 rfl (by decide) rfl rfl rfl dX11_worth_53 ?_
          refine z_iload_n cx rfl rfl dX11_worth_56 ?_
          obtain ⟨v17, S18, e19, h⟩ := g_bd_ex h
          refine q_csl (As := [.long v13, .long (S14.2.1 4812), .int a2]) cx mo_X11_partOf ms_X11_partOf tb_508 (by decide) rfl rfl (Nat.le_of_ble_eq_true rfl) dX11_worth_57 (c_X11_partOf v13 (S14.2.1 4812) a2 _ e19) ?_
          obtain ⟨rfl, rfl⟩ := g_some h
          exact z_lreturn cx ce rfl ⟨rfl, rfl⟩ dX11_worth_60
        · have h := g_t c16 h
          refine z_ldc2 cx tb_488 dX11_worth_44 ?_
          refine z_goto (tgt := 60) cx (by decide) dX11_worth_47 ?_
          obtain ⟨rfl, rfl⟩ := g_some h
          exact z_lreturn cx ce rfl ⟨rfl, rfl⟩ dX11_worth_60
      · have h := g_f (Bool.eq_false_iff.mp c12) h
        refine z_ldc2 cx tb_485 dX11_worth_23 ?_
        obtain ⟨rfl, rfl⟩ := g_some h
        exact z_lreturn cx ce rfl ⟨rfl, rfl⟩ dX11_worth_26
theorem c_X11_worth {g : z_G} {n : Nat} (a0 : Int32) (a1 : Int32) (a2 : Int32) (S : z_Stt) {v : Int64} {S' : z_Stt} (h : f_X11_worth n a0 a1 a2 S = some (v, S')) : z_Ct g M_X11_worth 4 [.ref (z_ad g 48), .int a0, .int a1, .int a2] (hp g S) (z_P g (some (.long v)) S') :=
  z_Ct.of (by decide +kernel) rfl (Nat.le_of_ble_eq_true rfl) (fun K cx ce => q_weak (L' := [some (.ref (z_ad g 48)), some (.int a0), some (.int a1), some (.int a2), none, none]) (z_wk_s (z_wk_s (z_wk_s (z_wk_s (z_wk_e (z_wk_e (z_wk_0))))))) (t_X11_worth n cx ce a0 a1 a2 S h))
abbrev M_X11_howFar : z_M := (RX11, yX11_howFar, cX11_howFar, 6, some .int)
theorem mo_X11_howFar : z_mo M_X11_howFar 1 := ⟨tb_571, tb_5, rfl, ⟨by decide +kernel, by decide +kernel⟩, by decide +kernel, by decide⟩
theorem mv_X11_howFar : z_mv M_X11_howFar := ⟨tb_569, tb_570⟩
def f_X11_howFar_50 (n : Nat) (k15 : Int32 → Int32 → Int32 → z_Stt → Option (Int32 × z_Stt)) (x1 : Int32) (x3 : Int32) (y0 : Int32) (S : z_Stt) : Option (Int32 × z_Stt) :=
  k15 x1 y0 (x3 + 1) S
set_option maxHeartbeats 4000000 in
set_option maxRecDepth 100000 in
theorem t_X11_howFar_50 {g : z_G} {K : z_K} (n : Nat) {v : Int32} {S' : z_Stt} (cx : z_C g M_X11_howFar 4 K) (ce : z_E' g M_X11_howFar (z_P g (some (.int v)) S') K) (k15 : Int32 → Int32 → Int32 → z_Stt → Option (Int32 × z_Stt)) (hk15 : ∀ (x1 : Int32) (x2 : Int32) (x3 : Int32) (S : z_Stt), k15 x1 x2 x3 S = some (v, S') → z_At g M_X11_howFar K 15 [some (.ref (z_ad g 48)), some (.int x1), some (.int x2), some (.int x3), none, none] [] (hp g S)) (x1 : Int32) (x3 : Int32) (y0 : Int32) (S : z_Stt) (h : f_X11_howFar_50 n k15 x1 x3 y0 S = some (v, S')) : z_At g M_X11_howFar K 50 [some (.ref (z_ad g 48)), some (.int x1), none, some (.int x3), none, none] [.int y0] (hp g S) := by
  unfold f_X11_howFar_50 at h
  refine z_istore_n (L' := [some (.ref (z_ad g 48)), some (.int x1), some (.int y0), some (.int x3), none, none]) cx rfl (by decide) rfl dX11_howFar_50 ?_
  refine z_iinc (c := 1) (L' := [some (.ref (z_ad g 48)), some (.int x1), some (.int y0), some (.int (x3 + 1)), none, none]) cx rfl (by decide +kernel) (by decide) rfl dX11_howFar_51 ?_
  refine z_goto (tgt := 15) cx (by decide) dX11_howFar_54 ?_
  exact q_weak (z_wk_s (z_wk_s (z_wk_s (z_wk_s (z_wk_n (z_wk_n (z_wk_0))))))) (hk15 x1 y0 (x3 + 1) S h)
def f_X11_howFar_49 (n : Nat) (k15 : Int32 → Int32 → Int32 → z_Stt → Option (Int32 × z_Stt)) (x1 : Int32) (x2 : Int32) (x3 : Int32) (S : z_Stt) : Option (Int32 × z_Stt) :=
  f_X11_howFar_50 n k15 x1 x3 x2 S
set_option maxHeartbeats 4000000 in
set_option maxRecDepth 100000 in
theorem t_X11_howFar_49 {g : z_G} {K : z_K} (n : Nat) {v : Int32} {S' : z_Stt} (cx : z_C g M_X11_howFar 4 K) (ce : z_E' g M_X11_howFar (z_P g (some (.int v)) S') K) (k15 : Int32 → Int32 → Int32 → z_Stt → Option (Int32 × z_Stt)) (hk15 : ∀ (x1 : Int32) (x2 : Int32) (x3 : Int32) (S : z_Stt), k15 x1 x2 x3 S = some (v, S') → z_At g M_X11_howFar K 15 [some (.ref (z_ad g 48)), some (.int x1), some (.int x2), some (.int x3), none, none] [] (hp g S)) (x1 : Int32) (x2 : Int32) (x3 : Int32) (S : z_Stt) (h : f_X11_howFar_49 n k15 x1 x2 x3 S = some (v, S')) : z_At g M_X11_howFar K 49 [some (.ref (z_ad g 48)), some (.int x1), some (.int x2), some (.int x3), none, none] [] (hp g S) := by
  unfold f_X11_howFar_49 at h
  refine z_iload_n cx rfl rfl dX11_howFar_49 ?_
  exact q_weak (z_wk_s (z_wk_s (z_wk_n (z_wk_s (z_wk_n (z_wk_n (z_wk_0))))))) (t_X11_howFar_50 n cx ce k15 hk15 x1 x3 x2 S h)
def f_X11_howFar_15 (n : Nat) : Nat → Int32 → Int32 → Int32 → z_Stt → Option (Int32 × z_Stt)
  | 0, _, _, _, _ => none
  | m + 1, x1, x2, x3, S =>
    if 99 < x3 then
      some (x2, S)
    else
      g_bd (f_X11_worthWays x1 x3 S) fun v2 S3 =>
      if lg_cmp (S3.2.1 4812) 0 ≤ 0 then
        f_X11_howFar_49 n (f_X11_howFar_15 n m) x1 x2 x3 S3
      else
        if lg_cmp v2 0 ≤ 0 then
          f_X11_howFar_49 n (f_X11_howFar_15 n m) x1 x2 x3 S3
        else
          f_X11_howFar_50 n (f_X11_howFar_15 n m) x1 x3 x3 S3
set_option maxHeartbeats 4000000 in
set_option maxRecDepth 100000 in
theorem t_X11_howFar_15 {g : z_G} {K : z_K} (n : Nat) {v : Int32} {S' : z_Stt} (cx : z_C g M_X11_howFar 4 K) (ce : z_E' g M_X11_howFar (z_P g (some (.int v)) S') K) : ∀ (m : Nat) (x1 : Int32) (x2 : Int32) (x3 : Int32) (S : z_Stt) (h : f_X11_howFar_15 n m x1 x2 x3 S = some (v, S')), z_At g M_X11_howFar K 15 [some (.ref (z_ad g 48)), some (.int x1), some (.int x2), some (.int x3), none, none] [] (hp g S) := by
  intro m
  induction m with
  | zero => intro x1 x2 x3 S h; simp [f_X11_howFar_15] at h
  | succ m ih =>
    intro x1 x2 x3 S h
    rw [f_X11_howFar_15] at h
    refine z_iload_n cx rfl rfl dX11_howFar_15 ?_
    refine z_bipush (v := 99) cx (by decide +kernel) dX11_howFar_16 ?_
    refine z_icmp_gt (tgt := 57) cx (by decide) dX11_howFar_18 (fun c1 => ?_) (fun c1 => ?_)
    · have h := g_t c1 h
      refine z_iload_n cx rfl rfl dX11_howFar_57 ?_
      obtain ⟨rfl, rfl⟩ := g_some h
      exact z_ireturn cx ce rfl ⟨rfl, rfl⟩ dX11_howFar_58
    · have h := g_f c1 h
      refine z_aload_n cx rfl rfl dX11_howFar_21 ?_
      refine z_iload_n cx rfl rfl dX11_howFar_22 ?_
      refine z_iload_n cx rfl rfl dX11_howFar_23 ?_
      obtain ⟨v2, S3, e4, h⟩ := g_bd_ex h
      refine q_cvl (As := [.int x1, .int x3]) cx mo_X11_worthWays mv_X11_worthWays z_cl11 rfl tb_548 (by decide) rfl (by decide) rfl rfl (Nat.le_of_ble_eq_true rfl) dX11_howFar_24 (c_X11_worthWays x1 x3 _ e4) ?_
      refine z_lstore (L' := [some (.ref (z_ad g 48)), some (.int x1), some (.int x2), some (.int x3), some (.long v2), none]) cx (by decide) rfl dX11_howFar_27 ?_
      refine z_aload_n cx rfl rfl dX11_howFar_29 ?_
      refine q_getJ (k := 48) (n := 4812) cx z_cl11 (j := 12) (by decide) tb_487 rfl (by decide) rfl rfl rfl dX11_howFar_30 ?_
      refine z_lconst (v := 0) cx (by decide +kernel) dX11_howFar_33 ?_
      refine z_lcmp cx dX11_howFar_34 ?_
      refine z_if_le (tgt := 49) cx (by decide) dX11_howFar_35 (fun c5 => ?_) (fun c5 => ?_)
      · have h := g_t c5 h
        exact q_weak (z_wk_s (z_wk_s (z_wk_s (z_wk_s (z_wk_n (z_wk_n (z_wk_0))))))) (t_X11_howFar_49 n cx ce (f_X11_howFar_15 n m) ih x1 x2 x3 S3 h)
      · have h := g_f c5 h
        refine z_lload cx rfl dX11_howFar_38 ?_
        refine z_lconst (v := 0) cx (by decide +kernel) dX11_howFar_40 ?_
        refine z_lcmp cx dX11_howFar_41 ?_
        refine z_if_le (tgt := 49) cx (by decide) dX11_howFar_42 (fun c6 => ?_) (fun c6 => ?_)
        · have h := g_t c6 h
          exact q_weak (z_wk_s (z_wk_s (z_wk_s (z_wk_s (z_wk_n (z_wk_n (z_wk_0))))))) (t_X11_howFar_49 n cx ce (f_X11_howFar_15 n m) ih x1 x2 x3 S3 h)
        · have h := g_f c6 h
          refine z_iload_n cx rfl rfl dX11_howFar_45 ?_
          refine z_goto (tgt := 50) cx (by decide) dX11_howFar_46 ?_
          exact q_weak (z_wk_s (z_wk_s (z_wk_n (z_wk_s (z_wk_n (z_wk_n (z_wk_0))))))) (t_X11_howFar_50 n cx ce (f_X11_howFar_15 n m) ih x1 x3 x3 S3 h)
def f_X11_howFar (n : Nat) (a0 : Int32) (S : z_Stt) : Option (Int32 × z_Stt) :=
  g_bd (f_X11_isTr a0 S) fun v1 S2 =>
  if v1 = true then
    f_X11_howFar_15 n n a0 (-2) 0 S2
  else
    some ((-1), S2)
set_option maxHeartbeats 4000000 in
set_option maxRecDepth 100000 in
theorem t_X11_howFar {g : z_G} {K : z_K} (n : Nat) {v : Int32} {S' : z_Stt} (cx : z_C g M_X11_howFar 4 K) (ce : z_E' g M_X11_howFar (z_P g (some (.int v)) S') K) (a0 : Int32) (S : z_Stt) (h : f_X11_howFar n a0 S = some (v, S')) : z_At g M_X11_howFar K 0 [some (.ref (z_ad g 48)), some (.int a0), none, none, none, none] [] (hp g S) := by
  unfold f_X11_howFar at h
  refine z_aload_n cx rfl rfl dX11_howFar_0 ?_
  refine z_iload_n cx rfl rfl dX11_howFar_1 ?_
  obtain ⟨v1, S2, e3, h⟩ := g_bd_ex h
  refine q_cvi (As := [.int a0]) cx mo_X11_isTr mv_X11_isTr z_cl11 rfl tb_540 (by decide) rfl (by decide) rfl rfl (Nat.le_of_ble_eq_true rfl) dX11_howFar_2 (c_X11_isTr a0 _ e3) ?_
  refine q_ifb_ne (tgt := 10) cx (by decide) dX11_howFar_5 (fun c4 => ?_) (fun c4 => ?_)
  · have h := g_t c4 h
    refine z_bipush (v := (-2)) cx (by decide +kernel) dX11_howFar_10 ?_
    refine z_istore_n (L' := [some (.ref (z_ad g 48)), some (.int a0), some (.int (-2)), none, none, none]) cx rfl (by decide) rfl dX11_howFar_12 ?_
    refine z_iconst (v := 0) cx (by decide +kernel) dX11_howFar_13 ?_
    refine z_istore_n (L' := [some (.ref (z_ad g 48)), some (.int a0), some (.int (-2)), some (.int 0), none, none]) cx rfl (by decide) rfl dX11_howFar_14 ?_
    exact q_weak (z_wk_s (z_wk_s (z_wk_s (z_wk_s (z_wk_n (z_wk_n (z_wk_0))))))) (t_X11_howFar_15 n cx ce n a0 (-2) 0 S2 h)
  · have h := g_f (Bool.eq_false_iff.mp c4) h
    refine z_iconst (v := (-1)) cx (by decide +kernel) dX11_howFar_8 ?_
    obtain ⟨rfl, rfl⟩ := g_some h
    exact z_ireturn cx ce rfl ⟨rfl, rfl⟩ dX11_howFar_9
theorem c_X11_howFar {g : z_G} {n : Nat} (a0 : Int32) (S : z_Stt) {v : Int32} {S' : z_Stt} (h : f_X11_howFar n a0 S = some (v, S')) : z_Ct g M_X11_howFar 4 [.ref (z_ad g 48), .int a0] (hp g S) (z_P g (some (.int v)) S') :=
  z_Ct.of (by decide +kernel) rfl (Nat.le_of_ble_eq_true rfl) (fun K cx ce => q_weak (L' := [some (.ref (z_ad g 48)), some (.int a0), none, none, none, none]) (z_wk_s (z_wk_s (z_wk_e (z_wk_e (z_wk_e (z_wk_e (z_wk_0))))))) (t_X11_howFar n cx ce a0 S h))
abbrev M_X11_isDr : z_M := (RX11, yX11_isDr, cX11_isDr, 3, some .boolean)
theorem mo_X11_isDr : z_mo M_X11_isDr 1 := ⟨tb_637, tb_5, rfl, ⟨by decide +kernel, by decide +kernel⟩, by decide +kernel, by decide⟩
theorem mv_X11_isDr : z_mv M_X11_isDr := ⟨tb_635, tb_636⟩
def f_X11_isDr (n : Nat) (a0 : Int32) (S : z_Stt) : Option (Bool × z_Stt) :=
  if a0 < 0 then
    some (false, S)
  else
    if 64 ≤ a0 / 64 then
      some (false, S)
    else
      if (a0 / 64) &&& ((a0 % 64) ^^^ (-1)) = 0 then
        if 1 <<< ((S.1 4806) &&& 31) ≤ a0 % 64 then
          some (false, S)
        else
          g_bd (f_X11_bitsOf n (a0 % 64) S) fun v5 S6 =>
          if 4 < v5 then
            some (false, S6)
          else
            some (true, S6)
      else
        some (false, S)
set_option maxHeartbeats 4000000 in
set_option maxRecDepth 100000 in
theorem t_X11_isDr {g : z_G} {K : z_K} (n : Nat) {v : Bool} {S' : z_Stt} (cx : z_C g M_X11_isDr 1 K) (ce : z_E' g M_X11_isDr (z_P g (some (.int (bI v))) S') K) (a0 : Int32) (S : z_Stt) (h : f_X11_isDr n a0 S = some (v, S')) : z_At g M_X11_isDr K 0 [some (.ref (z_ad g 48)), some (.int a0), none] [] (hp g S) := by
  unfold f_X11_isDr at h
  refine z_iload_n cx rfl rfl dX11_isDr_0 ?_
  refine z_bipush (v := 64) cx (by decide +kernel) dX11_isDr_1 ?_
  refine z_irem cx (by decide +kernel) dX11_isDr_3 ?_
  refine z_istore_n (L' := [some (.ref (z_ad g 48)), some (.int a0), some (.int (a0 % 64))]) cx rfl (by decide) rfl dX11_isDr_4 ?_
  refine z_iload_n cx rfl rfl dX11_isDr_5 ?_
  refine z_if_lt (tgt := 51) cx (by decide) dX11_isDr_6 (fun c1 => ?_) (fun c1 => ?_)
  · have h := g_t c1 h
    refine z_iconst (v := 0) cx (by decide +kernel) dX11_isDr_51 ?_
    obtain ⟨rfl, rfl⟩ := g_some h
    exact z_zreturn cx ce rfl (by decide +kernel) ⟨rfl, rfl⟩ dX11_isDr_52
  · have h := g_f c1 h
    refine z_iload_n cx rfl rfl dX11_isDr_9 ?_
    refine z_bipush (v := 64) cx (by decide +kernel) dX11_isDr_10 ?_
    refine z_idiv cx (by decide +kernel) dX11_isDr_12 ?_
    refine z_bipush (v := 64) cx (by decide +kernel) dX11_isDr_13 ?_
    refine z_icmp_ge (tgt := 51) cx (by decide) dX11_isDr_15 (fun c2 => ?_) (fun c2 => ?_)
    · have h := g_t c2 h
      refine z_iconst (v := 0) cx (by decide +kernel) dX11_isDr_51 ?_
      obtain ⟨rfl, rfl⟩ := g_some h
      exact z_zreturn cx ce rfl (by decide +kernel) ⟨rfl, rfl⟩ dX11_isDr_52
    · have h := g_f c2 h
      refine z_iload_n cx rfl rfl dX11_isDr_18 ?_
      refine z_bipush (v := 64) cx (by decide +kernel) dX11_isDr_19 ?_
      refine z_idiv cx (by decide +kernel) dX11_isDr_21 ?_
      refine z_iload_n cx rfl rfl dX11_isDr_22 ?_
      refine z_iconst (v := (-1)) cx (by decide +kernel) dX11_isDr_23 ?_
      refine z_ixor cx dX11_isDr_24 ?_
      refine z_iand cx dX11_isDr_25 ?_
      refine z_if_ne (tgt := 51) cx (by decide) dX11_isDr_26 (fun c3 => ?_) (fun c3 => ?_)
      · have h := g_f c3 h
        refine z_iconst (v := 0) cx (by decide +kernel) dX11_isDr_51 ?_
        obtain ⟨rfl, rfl⟩ := g_some h
        exact z_zreturn cx ce rfl (by decide +kernel) ⟨rfl, rfl⟩ dX11_isDr_52
      · have h := g_t c3 h
        refine z_iload_n cx rfl rfl dX11_isDr_29 ?_
        refine z_iconst (v := 1) cx (by decide +kernel) dX11_isDr_30 ?_
        refine z_aload_n cx rfl rfl dX11_isDr_31 ?_
        refine q_getI (k := 48) (n := 4806) cx z_cl11 (j := 6) (by decide) tb_184 rfl (by decide) rfl rfl rfl dX11_isDr_32 ?_
        refine z_ishl cx dX11_isDr_35 ?_
        refine z_icmp_ge (tgt := 51) cx (by decide) dX11_isDr_36 (fun c4 => ?_) (fun c4 => ?_)
        · have h := g_t c4 h
          refine z_iconst (v := 0) cx (by decide +kernel) dX11_isDr_51 ?_
          obtain ⟨rfl, rfl⟩ := g_some h
          exact z_zreturn cx ce rfl (by decide +kernel) ⟨rfl, rfl⟩ dX11_isDr_52
        · have h := g_f c4 h
          refine z_iload_n cx rfl rfl dX11_isDr_39 ?_
          obtain ⟨v5, S6, e7, h⟩ := g_bd_ex h
          refine q_csi (As := [.int (a0 % 64)]) cx mo_X11_bitsOf ms_X11_bitsOf tb_638 (by decide) rfl rfl (Nat.le_of_ble_eq_true rfl) dX11_isDr_40 (c_X11_bitsOf (a0 % 64) _ e7) ?_
          refine z_iconst (v := 4) cx (by decide +kernel) dX11_isDr_43 ?_
          refine z_icmp_gt (tgt := 51) cx (by decide) dX11_isDr_44 (fun c8 => ?_) (fun c8 => ?_)
          · have h := g_t c8 h
            refine z_iconst (v := 0) cx (by decide +kernel) dX11_isDr_51 ?_
            obtain ⟨rfl, rfl⟩ := g_some h
            exact z_zreturn cx ce rfl (by decide +kernel) ⟨rfl, rfl⟩ dX11_isDr_52
          · have h := g_f c8 h
            refine z_iconst (v := 1) cx (by decide +kernel) dX11_isDr_47 ?_
            refine z_goto (tgt := 52) cx (by decide) dX11_isDr_48 ?_
            obtain ⟨rfl, rfl⟩ := g_some h
            exact z_zreturn cx ce rfl (by decide +kernel) ⟨rfl, rfl⟩ dX11_isDr_52
theorem c_X11_isDr {g : z_G} {n : Nat} (a0 : Int32) (S : z_Stt) {v : Bool} {S' : z_Stt} (h : f_X11_isDr n a0 S = some (v, S')) : z_Ct g M_X11_isDr 1 [.ref (z_ad g 48), .int a0] (hp g S) (z_P g (some (.int (bI v))) S') :=
  z_Ct.of (by decide +kernel) rfl (Nat.le_of_ble_eq_true rfl) (fun K cx ce => q_weak (L' := [some (.ref (z_ad g 48)), some (.int a0), none]) (z_wk_s (z_wk_s (z_wk_e (z_wk_0)))) (t_X11_isDr n cx ce a0 S h))
abbrev M_X11_asksAll : z_M := (RX11, yX11_asksAll, cX11_asksAll, 3, some .boolean)
theorem mo_X11_asksAll : z_mo M_X11_asksAll 1 := ⟨tb_644, tb_5, rfl, ⟨by decide +kernel, by decide +kernel⟩, by decide +kernel, by decide⟩
theorem mv_X11_asksAll : z_mv M_X11_asksAll := ⟨tb_642, tb_643⟩
def f_X11_asksAll_95 (n : Nat) (k7 : Int32 → Int32 → z_Stt → Option (Bool × z_Stt)) (x1 : Int32) (x2 : Int32) (S : z_Stt) : Option (Bool × z_Stt) :=
  k7 x1 (x2 + 1) S
set_option maxHeartbeats 4000000 in
set_option maxRecDepth 100000 in
theorem t_X11_asksAll_95 {g : z_G} {K : z_K} (n : Nat) {v : Bool} {S' : z_Stt} (cx : z_C g M_X11_asksAll 3 K) (ce : z_E' g M_X11_asksAll (z_P g (some (.int (bI v))) S') K) (k7 : Int32 → Int32 → z_Stt → Option (Bool × z_Stt)) (hk7 : ∀ (x1 : Int32) (x2 : Int32) (S : z_Stt), k7 x1 x2 S = some (v, S') → z_At g M_X11_asksAll K 7 [some (.ref (z_ad g 48)), some (.int x1), some (.int x2)] [] (hp g S)) (x1 : Int32) (x2 : Int32) (S : z_Stt) (h : f_X11_asksAll_95 n k7 x1 x2 S = some (v, S')) : z_At g M_X11_asksAll K 95 [some (.ref (z_ad g 48)), some (.int x1), some (.int x2)] [] (hp g S) := by
  unfold f_X11_asksAll_95 at h
  refine z_iinc (c := 1) (L' := [some (.ref (z_ad g 48)), some (.int x1), some (.int (x2 + 1))]) cx rfl (by decide +kernel) (by decide) rfl dX11_asksAll_95 ?_
  refine z_goto (tgt := 7) cx (by decide) dX11_asksAll_98 ?_
  exact q_weak (z_wk_s (z_wk_s (z_wk_s (z_wk_0)))) (hk7 x1 (x2 + 1) S h)
def f_X11_asksAll_58 (n : Nat) (k7 : Int32 → Int32 → z_Stt → Option (Bool × z_Stt)) (x1 : Int32) (x2 : Int32) (y0 : Int32) (y1 : Int32) (S : z_Stt) : Option (Bool × z_Stt) :=
  g_bd (f_X11_asksOpen y1 y0 S) fun v1 S2 =>
  if ¬ (x2 < 0 ∨ 6 ≤ x2.toNatClampNeg) then
    g_let (sE S2 58 (vp_updL (S2.2.2.2.1 58) x2.toNatClampNeg (S2.2.1 4811))) fun S5 =>
    if ¬ (x2 < 0 ∨ 6 ≤ x2.toNatClampNeg) then
      g_let (sE S5 59 (vp_updL (S5.2.2.2.1 59) x2.toNatClampNeg (S5.2.1 4812))) fun S8 =>
      g_let (sJ S8 4825 ((S8.2.1 4825) * (S8.2.1 4812))) fun S10 =>
      f_X11_asksAll_95 n k7 x1 x2 S10
    else none
  else none
set_option maxHeartbeats 4000000 in
set_option maxRecDepth 100000 in
theorem t_X11_asksAll_58 {g : z_G} {K : z_K} (n : Nat) {v : Bool} {S' : z_Stt} (cx : z_C g M_X11_asksAll 3 K) (ce : z_E' g M_X11_asksAll (z_P g (some (.int (bI v))) S') K) (k7 : Int32 → Int32 → z_Stt → Option (Bool × z_Stt)) (hk7 : ∀ (x1 : Int32) (x2 : Int32) (S : z_Stt), k7 x1 x2 S = some (v, S') → z_At g M_X11_asksAll K 7 [some (.ref (z_ad g 48)), some (.int x1), some (.int x2)] [] (hp g S)) (x1 : Int32) (x2 : Int32) (y0 : Int32) (y1 : Int32) (S : z_Stt) (h : f_X11_asksAll_58 n k7 x1 x2 y0 y1 S = some (v, S')) : z_At g M_X11_asksAll K 58 [some (.ref (z_ad g 48)), some (.int x1), some (.int x2)] [.int y0, .int y1, .ref (z_ad g 48)] (hp g S) := by
  unfold f_X11_asksAll_58 at h
  obtain ⟨v1, S2, e3, h⟩ := g_bd_ex h
  refine q_cvi (As := [.int y1, .int y0]) cx mo_X11_asksOpen mv_X11_asksOpen z_cl11 rfl tb_492 (by decide) rfl (by decide) rfl rfl (Nat.le_of_ble_eq_true rfl) dX11_asksAll_58 (c_X11_asksOpen y1 y0 _ e3) ?_
  refine z_pop cx rfl dX11_asksAll_61 ?_
  refine z_aload_n cx rfl rfl dX11_asksAll_62 ?_
  refine q_getF (k := 48) (n := 58) (r := 10) cx z_cl11 (j := 23) (by decide) tb_151 rfl (by decide) rfl rfl rfl dX11_asksAll_63 ?_
  refine z_iload_n cx rfl rfl dX11_asksAll_66 ?_
  refine z_aload_n cx rfl rfl dX11_asksAll_67 ?_
  refine q_getJ (k := 48) (n := 4811) cx z_cl11 (j := 11) (by decide) tb_486 rfl (by decide) rfl rfl rfl dX11_asksAll_68 ?_
  obtain ⟨c4, h⟩ := g_if h
  refine q_last cx (by decide) rfl c4 dX11_asksAll_71 ?_
  obtain ⟨S5, e6, h⟩ := g_let_ex h
  rw [← e6]
  refine z_aload_n cx rfl rfl dX11_asksAll_72 ?_
  refine q_getF (k := 48) (n := 59) (r := 11) cx z_cl11 (j := 24) (by decide) tb_152 rfl (by decide) rfl rfl rfl dX11_asksAll_73 ?_
  refine z_iload_n cx rfl rfl dX11_asksAll_76 ?_
  refine z_aload_n cx rfl rfl dX11_asksAll_77 ?_
  refine q_getJ (k := 48) (n := 4812) cx z_cl11 (j := 12) (by decide) tb_487 rfl (by decide) rfl rfl rfl dX11_asksAll_78 ?_
  obtain ⟨c7, h⟩ := g_if h
  refine q_last cx (by decide) rfl c7 dX11_asksAll_81 ?_
  obtain ⟨S8, e9, h⟩ := g_let_ex h
  rw [← e9]
  refine z_aload_n cx rfl rfl dX11_asksAll_82 ?_
  refine z_dup cx rfl dX11_asksAll_83 ?_
  refine q_getJ (k := 48) (n := 4825) cx z_cl11 (j := 25) (by decide) tb_633 rfl (by decide) rfl rfl rfl dX11_asksAll_84 ?_
  refine z_aload_n cx rfl rfl dX11_asksAll_87 ?_
  refine q_getJ (k := 48) (n := 4812) cx z_cl11 (j := 12) (by decide) tb_487 rfl (by decide) rfl rfl rfl dX11_asksAll_88 ?_
  refine z_lmul cx dX11_asksAll_91 ?_
  refine q_putJ (k := 48) (n := 4825) cx z_cl11 (j := 25) (by decide) tb_633 rfl rfl rfl (by decide) rfl rfl rfl (by decide) (by decide) dX11_asksAll_92 ?_
  obtain ⟨S10, e11, h⟩ := g_let_ex h
  rw [← e11]
  exact q_weak (z_wk_s (z_wk_s (z_wk_s (z_wk_0)))) (t_X11_asksAll_95 n cx ce k7 hk7 x1 x2 S10 h)
def f_X11_asksAll_7 (n : Nat) : Nat → Int32 → Int32 → z_Stt → Option (Bool × z_Stt)
  | 0, _, _, _ => none
  | m + 1, x1, x2, S =>
    if S.1 4806 ≤ x2 then
      if lg_cmp (S.2.1 4825) 0 ≤ 0 then
        some (false, S)
      else
        some (true, S)
    else
      if ¬ (x2 < 0 ∨ 6 ≤ x2.toNatClampNeg) then
        g_let (sE S 58 (vp_updL (S.2.2.2.1 58) x2.toNatClampNeg 0)) fun S4 =>
        if ¬ (x2 < 0 ∨ 6 ≤ x2.toNatClampNeg) then
          g_let (sE S4 59 (vp_updL (S4.2.2.2.1 59) x2.toNatClampNeg 1)) fun S7 =>
          g_bd (f_X11_isIn (x1 % 64) x2 S7) fun v9 S10 =>
          if v9 = true then
            g_bd (f_X11_isIn (x1 / 64) x2 S10) fun v13 S14 =>
            if v13 = true then
              f_X11_asksAll_58 n (f_X11_asksAll_7 n m) x1 x2 1 x2 S14
            else
              f_X11_asksAll_58 n (f_X11_asksAll_7 n m) x1 x2 0 x2 S14
          else
            f_X11_asksAll_95 n (f_X11_asksAll_7 n m) x1 x2 S10
        else none
      else none
set_option maxHeartbeats 4000000 in
set_option maxRecDepth 100000 in
theorem t_X11_asksAll_7 {g : z_G} {K : z_K} (n : Nat) {v : Bool} {S' : z_Stt} (cx : z_C g M_X11_asksAll 3 K) (ce : z_E' g M_X11_asksAll (z_P g (some (.int (bI v))) S') K) : ∀ (m : Nat) (x1 : Int32) (x2 : Int32) (S : z_Stt) (h : f_X11_asksAll_7 n m x1 x2 S = some (v, S')), z_At g M_X11_asksAll K 7 [some (.ref (z_ad g 48)), some (.int x1), some (.int x2)] [] (hp g S) := by
  intro m
  induction m with
  | zero => intro x1 x2 S h; simp [f_X11_asksAll_7] at h
  | succ m ih =>
    intro x1 x2 S h
    rw [f_X11_asksAll_7] at h
    refine z_iload_n cx rfl rfl dX11_asksAll_7 ?_
    refine z_aload_n cx rfl rfl dX11_asksAll_8 ?_
    refine q_getI (k := 48) (n := 4806) cx z_cl11 (j := 6) (by decide) tb_184 rfl (by decide) rfl rfl rfl dX11_asksAll_9 ?_
    refine z_icmp_ge (tgt := 101) cx (by decide) dX11_asksAll_12 (fun c1 => ?_) (fun c1 => ?_)
    · have h := g_t c1 h
      refine z_aload_n cx rfl rfl dX11_asksAll_101 ?_
      refine q_getJ (k := 48) (n := 4825) cx z_cl11 (j := 25) (by decide) tb_633 rfl (by decide) rfl rfl rfl dX11_asksAll_102 ?_
      refine z_lconst (v := 0) cx (by decide +kernel) dX11_asksAll_105 ?_
      refine z_lcmp cx dX11_asksAll_106 ?_
      refine z_if_le (tgt := 114) cx (by decide) dX11_asksAll_107 (fun c2 => ?_) (fun c2 => ?_)
      · have h := g_t c2 h
        refine z_iconst (v := 0) cx (by decide +kernel) dX11_asksAll_114 ?_
        obtain ⟨rfl, rfl⟩ := g_some h
        exact z_zreturn cx ce rfl (by decide +kernel) ⟨rfl, rfl⟩ dX11_asksAll_115
      · have h := g_f c2 h
        refine z_iconst (v := 1) cx (by decide +kernel) dX11_asksAll_110 ?_
        refine z_goto (tgt := 115) cx (by decide) dX11_asksAll_111 ?_
        obtain ⟨rfl, rfl⟩ := g_some h
        exact z_zreturn cx ce rfl (by decide +kernel) ⟨rfl, rfl⟩ dX11_asksAll_115
    · have h := g_f c1 h
      refine z_aload_n cx rfl rfl dX11_asksAll_15 ?_
      refine q_getF (k := 48) (n := 58) (r := 10) cx z_cl11 (j := 23) (by decide) tb_151 rfl (by decide) rfl rfl rfl dX11_asksAll_16 ?_
      refine z_iload_n cx rfl rfl dX11_asksAll_19 ?_
      refine z_lconst (v := 0) cx (by decide +kernel) dX11_asksAll_20 ?_
      obtain ⟨c3, h⟩ := g_if h
      refine q_last cx (by decide) rfl c3 dX11_asksAll_21 ?_
      obtain ⟨S4, e5, h⟩ := g_let_ex h
      rw [← e5]
      refine z_aload_n cx rfl rfl dX11_asksAll_22 ?_
      refine q_getF (k := 48) (n := 59) (r := 11) cx z_cl11 (j := 24) (by decide) tb_152 rfl (by decide) rfl rfl rfl dX11_asksAll_23 ?_
      refine z_iload_n cx rfl rfl dX11_asksAll_26 ?_
      refine z_lconst (v := 1) cx (by decide +kernel) dX11_asksAll_27 ?_
      obtain ⟨c6, h⟩ := g_if h
      refine q_last cx (by decide) rfl c6 dX11_asksAll_28 ?_
      obtain ⟨S7, e8, h⟩ := g_let_ex h
      rw [← e8]
      refine z_iload_n cx rfl rfl dX11_asksAll_29 ?_
      refine z_bipush (v := 64) cx (by decide +kernel) dX11_asksAll_30 ?_
      refine z_irem cx (by decide +kernel) dX11_asksAll_32 ?_
      refine z_iload_n cx rfl rfl dX11_asksAll_33 ?_
      obtain ⟨v9, S10, e11, h⟩ := g_bd_ex h
      refine q_csi (As := [.int (x1 % 64), .int x2]) cx mo_X11_isIn ms_X11_isIn tb_645 (by decide) rfl rfl (Nat.le_of_ble_eq_true rfl) dX11_asksAll_34 (c_X11_isIn (x1 % 64) x2 _ e11) ?_
      refine q_ifb_eq (tgt := 95) cx (by decide) dX11_asksAll_37 (fun c12 => ?_) (fun c12 => ?_)
      · have h := g_f (Bool.eq_false_iff.mp c12) h
        exact q_weak (z_wk_s (z_wk_s (z_wk_s (z_wk_0)))) (t_X11_asksAll_95 n cx ce (f_X11_asksAll_7 n m) ih x1 x2 S10 h)
      · have h := g_t c12 h
        refine z_aload_n cx rfl rfl dX11_asksAll_40 ?_
        refine z_iload_n cx rfl rfl dX11_asksAll_41 ?_
        refine z_iload_n cx rfl rfl dX11_asksAll_42 ?_
        refine z_bipush (v := 64) cx (by decide +kernel) dX11_asksAll_43 ?_
        refine z_idiv cx (by decide +kernel) dX11_asksAll_45 ?_
        refine z_iload_n cx rfl rfl dX11_asksAll_46 ?_
        obtain ⟨v13, S14, e15, h⟩ := g_bd_ex h
        refine q_csi (As := [.int (x1 / 64), .int x2]) cx mo_X11_isIn ms_X11_isIn tb_645 (by decide) rfl rfl (Nat.le_of_ble_eq_true rfl) dX11_asksAll_47 (c_X11_isIn (x1 / 64) x2 _ e15) ?_
        refine q_ifb_eq (tgt := 57) cx (by decide) dX11_asksAll_50 (fun c16 => ?_) (fun c16 => ?_)
        · have h := g_f (Bool.eq_false_iff.mp c16) h
          refine z_iconst (v := 0) cx (by decide +kernel) dX11_asksAll_57 ?_
          exact q_weak (z_wk_s (z_wk_s (z_wk_s (z_wk_0)))) (t_X11_asksAll_58 n cx ce (f_X11_asksAll_7 n m) ih x1 x2 0 x2 S14 h)
        · have h := g_t c16 h
          refine z_iconst (v := 1) cx (by decide +kernel) dX11_asksAll_53 ?_
          refine z_goto (tgt := 58) cx (by decide) dX11_asksAll_54 ?_
          exact q_weak (z_wk_s (z_wk_s (z_wk_s (z_wk_0)))) (t_X11_asksAll_58 n cx ce (f_X11_asksAll_7 n m) ih x1 x2 1 x2 S14 h)
def f_X11_asksAll (n : Nat) (a0 : Int32) (S : z_Stt) : Option (Bool × z_Stt) :=
  g_let (sJ S 4825 1) fun S1 =>
  f_X11_asksAll_7 n n a0 0 S1
set_option maxHeartbeats 4000000 in
set_option maxRecDepth 100000 in
theorem t_X11_asksAll {g : z_G} {K : z_K} (n : Nat) {v : Bool} {S' : z_Stt} (cx : z_C g M_X11_asksAll 3 K) (ce : z_E' g M_X11_asksAll (z_P g (some (.int (bI v))) S') K) (a0 : Int32) (S : z_Stt) (h : f_X11_asksAll n a0 S = some (v, S')) : z_At g M_X11_asksAll K 0 [some (.ref (z_ad g 48)), some (.int a0), none] [] (hp g S) := by
  unfold f_X11_asksAll at h
  refine z_aload_n cx rfl rfl dX11_asksAll_0 ?_
  refine z_lconst (v := 1) cx (by decide +kernel) dX11_asksAll_1 ?_
  refine q_putJ (k := 48) (n := 4825) cx z_cl11 (j := 25) (by decide) tb_633 rfl rfl rfl (by decide) rfl rfl rfl (by decide) (by decide) dX11_asksAll_2 ?_
  obtain ⟨S1, e2, h⟩ := g_let_ex h
  rw [← e2]
  refine z_iconst (v := 0) cx (by decide +kernel) dX11_asksAll_5 ?_
  refine z_istore_n (L' := [some (.ref (z_ad g 48)), some (.int a0), some (.int 0)]) cx rfl (by decide) rfl dX11_asksAll_6 ?_
  exact q_weak (z_wk_s (z_wk_s (z_wk_s (z_wk_0)))) (t_X11_asksAll_7 n cx ce n a0 0 S1 h)
theorem c_X11_asksAll {g : z_G} {n : Nat} (a0 : Int32) (S : z_Stt) {v : Bool} {S' : z_Stt} (h : f_X11_asksAll n a0 S = some (v, S')) : z_Ct g M_X11_asksAll 3 [.ref (z_ad g 48), .int a0] (hp g S) (z_P g (some (.int (bI v))) S') :=
  z_Ct.of (by decide +kernel) rfl (Nat.le_of_ble_eq_true rfl) (fun K cx ce => q_weak (L' := [some (.ref (z_ad g 48)), some (.int a0), none]) (z_wk_s (z_wk_s (z_wk_e (z_wk_0)))) (t_X11_asksAll n cx ce a0 S h))
abbrev M_X11_staysFor : z_M := (RX11, yX11_staysFor, cX11_staysFor, 5, some .long)
theorem mo_X11_staysFor : z_mo M_X11_staysFor 1 := ⟨tb_651, tb_5, rfl, ⟨by decide +kernel, by decide +kernel⟩, by decide +kernel, by decide⟩
theorem mv_X11_staysFor : z_mv M_X11_staysFor := ⟨tb_649, tb_650⟩
def f_X11_staysFor_57 (n : Nat) (k5 : Int32 → Int64 → Int32 → z_Stt → Option (Int64 × z_Stt)) (x1 : Int32) (x4 : Int32) (y0 : Int64) (y1 : Int64) (S : z_Stt) : Option (Int64 × z_Stt) :=
  k5 x1 (y1 + y0) (x4 + 1) S
set_option maxHeartbeats 4000000 in
set_option maxRecDepth 100000 in
theorem t_X11_staysFor_57 {g : z_G} {K : z_K} (n : Nat) {v : Int64} {S' : z_Stt} (cx : z_C g M_X11_staysFor 1 K) (ce : z_E' g M_X11_staysFor (z_P g (some (.long v)) S') K) (k5 : Int32 → Int64 → Int32 → z_Stt → Option (Int64 × z_Stt)) (hk5 : ∀ (x1 : Int32) (x2 : Int64) (x4 : Int32) (S : z_Stt), k5 x1 x2 x4 S = some (v, S') → z_At g M_X11_staysFor K 5 [some (.ref (z_ad g 48)), some (.int x1), some (.long x2), none, some (.int x4)] [] (hp g S)) (x1 : Int32) (x4 : Int32) (y0 : Int64) (y1 : Int64) (S : z_Stt) (h : f_X11_staysFor_57 n k5 x1 x4 y0 y1 S = some (v, S')) : z_At g M_X11_staysFor K 57 [some (.ref (z_ad g 48)), some (.int x1), none, none, some (.int x4)] [.long y0, .long y1] (hp g S) := by
  unfold f_X11_staysFor_57 at h
  refine z_ladd cx dX11_staysFor_57 ?_
  refine z_lstore_n (L' := [some (.ref (z_ad g 48)), some (.int x1), some (.long (y1 + y0)), none, some (.int x4)]) cx rfl (by decide) rfl dX11_staysFor_58 ?_
  refine z_iinc (c := 1) (L' := [some (.ref (z_ad g 48)), some (.int x1), some (.long (y1 + y0)), none, some (.int (x4 + 1))]) cx rfl (by decide +kernel) (by decide) rfl dX11_staysFor_59 ?_
  refine z_goto (tgt := 5) cx (by decide) dX11_staysFor_62 ?_
  exact q_weak (z_wk_s (z_wk_s (z_wk_s (z_wk_n (z_wk_s (z_wk_0)))))) (hk5 x1 (y1 + y0) (x4 + 1) S h)
def f_X11_staysFor_5 (n : Nat) : Nat → Int32 → Int64 → Int32 → z_Stt → Option (Int64 × z_Stt)
  | 0, _, _, _, _ => none
  | m + 1, x1, x2, x4, S =>
    if S.1 4806 ≤ x4 then
      some (x2, S)
    else
      g_bd (f_X11_isIn x1 x4 S) fun v2 S3 =>
      if v2 = true then
        if ¬ (x4 < 0 ∨ 6 ≤ x4.toNatClampNeg) then
          if ¬ S3.2.2.2.1 59 x4.toNatClampNeg = 0 then
            if ¬ (x4 < 0 ∨ 6 ≤ x4.toNatClampNeg) then
              g_bd (f_X11_numberOf x4 3 S3) fun v9 S10 =>
              f_X11_staysFor_57 n (f_X11_staysFor_5 n m) x1 x4 ((((S3.2.1 4825) / (S3.2.2.2.1 59 x4.toNatClampNeg)) * (S3.2.2.2.1 58 x4.toNatClampNeg)) * (Int32.toInt64 v9)) x2 S10
            else none
          else none
        else none
      else
        f_X11_staysFor_57 n (f_X11_staysFor_5 n m) x1 x4 0 x2 S3
set_option maxHeartbeats 4000000 in
set_option maxRecDepth 100000 in
theorem t_X11_staysFor_5 {g : z_G} {K : z_K} (n : Nat) {v : Int64} {S' : z_Stt} (cx : z_C g M_X11_staysFor 1 K) (ce : z_E' g M_X11_staysFor (z_P g (some (.long v)) S') K) : ∀ (m : Nat) (x1 : Int32) (x2 : Int64) (x4 : Int32) (S : z_Stt) (h : f_X11_staysFor_5 n m x1 x2 x4 S = some (v, S')), z_At g M_X11_staysFor K 5 [some (.ref (z_ad g 48)), some (.int x1), some (.long x2), none, some (.int x4)] [] (hp g S) := by
  intro m
  induction m with
  | zero => intro x1 x2 x4 S h; simp [f_X11_staysFor_5] at h
  | succ m ih =>
    intro x1 x2 x4 S h
    rw [f_X11_staysFor_5] at h
    refine z_iload cx rfl dX11_staysFor_5 ?_
    refine z_aload_n cx rfl rfl dX11_staysFor_7 ?_
    refine q_getI (k := 48) (n := 4806) cx z_cl11 (j := 6) (by decide) tb_184 rfl (by decide) rfl rfl rfl dX11_staysFor_8 ?_
    refine z_icmp_ge (tgt := 65) cx (by decide) dX11_staysFor_11 (fun c1 => ?_) (fun c1 => ?_)
    · have h := g_t c1 h
      refine z_lload_n cx rfl rfl dX11_staysFor_65 ?_
      obtain ⟨rfl, rfl⟩ := g_some h
      exact z_lreturn cx ce rfl ⟨rfl, rfl⟩ dX11_staysFor_66
    · have h := g_f c1 h
      refine z_lload_n cx rfl rfl dX11_staysFor_14 ?_
      refine z_iload_n cx rfl rfl dX11_staysFor_15 ?_
      refine z_iload cx rfl dX11_staysFor_16 ?_
      obtain ⟨v2, S3, e4, h⟩ := g_bd_ex h
      refine q_csi (As := [.int x1, .int x4]) cx mo_X11_isIn ms_X11_isIn tb_645 (by decide) rfl rfl (Nat.le_of_ble_eq_true rfl) dX11_staysFor_18 (c_X11_isIn x1 x4 _ e4) ?_
      refine q_ifb_eq (tgt := 56) cx (by decide) dX11_staysFor_21 (fun c5 => ?_) (fun c5 => ?_)
      · have h := g_f (Bool.eq_false_iff.mp c5) h
        refine z_lconst (v := 0) cx (by decide +kernel) dX11_staysFor_56 ?_
        exact q_weak (z_wk_s (z_wk_s (z_wk_n (z_wk_n (z_wk_s (z_wk_0)))))) (t_X11_staysFor_57 n cx ce (f_X11_staysFor_5 n m) ih x1 x4 0 x2 S3 h)
      · have h := g_t c5 h
        refine z_aload_n cx rfl rfl dX11_staysFor_24 ?_
        refine q_getJ (k := 48) (n := 4825) cx z_cl11 (j := 25) (by decide) tb_633 rfl (by decide) rfl rfl rfl dX11_staysFor_25 ?_
        refine z_aload_n cx rfl rfl dX11_staysFor_28 ?_
        refine q_getF (k := 48) (n := 59) (r := 11) cx z_cl11 (j := 24) (by decide) tb_152 rfl (by decide) rfl rfl rfl dX11_staysFor_29 ?_
        refine z_iload cx rfl dX11_staysFor_32 ?_
        obtain ⟨c6, h⟩ := g_if h
        refine q_lald cx (by decide) rfl c6 dX11_staysFor_34 ?_
        obtain ⟨c7, h⟩ := g_if h
        refine z_ldiv cx c7 dX11_staysFor_35 ?_
        refine z_aload_n cx rfl rfl dX11_staysFor_36 ?_
        refine q_getF (k := 48) (n := 58) (r := 10) cx z_cl11 (j := 23) (by decide) tb_151 rfl (by decide) rfl rfl rfl dX11_staysFor_37 ?_
        refine z_iload cx rfl dX11_staysFor_40 ?_
        obtain ⟨c8, h⟩ := g_if h
        refine q_lald cx (by decide) rfl c8 dX11_staysFor_42 ?_
        refine z_lmul cx dX11_staysFor_43 ?_
        refine z_aload_n cx rfl rfl dX11_staysFor_44 ?_
        refine z_iload cx rfl dX11_staysFor_45 ?_
        refine z_iconst (v := 3) cx (by decide +kernel) dX11_staysFor_47 ?_
        obtain ⟨v9, S10, e11, h⟩ := g_bd_ex h
        refine q_cvi (As := [.int x4, .int 3]) cx mo_X11_numberOf mv_X11_numberOf z_cl11 rfl tb_496 (by decide) rfl (by decide) rfl rfl (Nat.le_of_ble_eq_true rfl) dX11_staysFor_48 (c_X11_numberOf x4 3 _ e11) ?_
        refine z_i2l cx dX11_staysFor_51 ?_
        refine z_lmul cx dX11_staysFor_52 ?_
        refine z_goto (tgt := 57) cx (by decide) dX11_staysFor_53 ?_
        exact q_weak (z_wk_s (z_wk_s (z_wk_n (z_wk_n (z_wk_s (z_wk_0)))))) (t_X11_staysFor_57 n cx ce (f_X11_staysFor_5 n m) ih x1 x4 ((((S3.2.1 4825) / (S3.2.2.2.1 59 x4.toNatClampNeg)) * (S3.2.2.2.1 58 x4.toNatClampNeg)) * (Int32.toInt64 v9)) x2 S10 h)
def f_X11_staysFor (n : Nat) (a0 : Int32) (S : z_Stt) : Option (Int64 × z_Stt) :=
  f_X11_staysFor_5 n n a0 0 0 S
set_option maxHeartbeats 4000000 in
set_option maxRecDepth 100000 in
theorem t_X11_staysFor {g : z_G} {K : z_K} (n : Nat) {v : Int64} {S' : z_Stt} (cx : z_C g M_X11_staysFor 1 K) (ce : z_E' g M_X11_staysFor (z_P g (some (.long v)) S') K) (a0 : Int32) (S : z_Stt) (h : f_X11_staysFor n a0 S = some (v, S')) : z_At g M_X11_staysFor K 0 [some (.ref (z_ad g 48)), some (.int a0), none, none, none] [] (hp g S) := by
  unfold f_X11_staysFor at h
  refine z_lconst (v := 0) cx (by decide +kernel) dX11_staysFor_0 ?_
  refine z_lstore_n (L' := [some (.ref (z_ad g 48)), some (.int a0), some (.long 0), none, none]) cx rfl (by decide) rfl dX11_staysFor_1 ?_
  refine z_iconst (v := 0) cx (by decide +kernel) dX11_staysFor_2 ?_
  refine z_istore (L' := [some (.ref (z_ad g 48)), some (.int a0), some (.long 0), none, some (.int 0)]) cx (by decide) rfl dX11_staysFor_3 ?_
  exact q_weak (z_wk_s (z_wk_s (z_wk_s (z_wk_n (z_wk_s (z_wk_0)))))) (t_X11_staysFor_5 n cx ce n a0 0 0 S h)
theorem c_X11_staysFor {g : z_G} {n : Nat} (a0 : Int32) (S : z_Stt) {v : Int64} {S' : z_Stt} (h : f_X11_staysFor n a0 S = some (v, S')) : z_Ct g M_X11_staysFor 1 [.ref (z_ad g 48), .int a0] (hp g S) (z_P g (some (.long v)) S') :=
  z_Ct.of (by decide +kernel) rfl (Nat.le_of_ble_eq_true rfl) (fun K cx ce => q_weak (L' := [some (.ref (z_ad g 48)), some (.int a0), none, none, none]) (z_wk_s (z_wk_s (z_wk_e (z_wk_e (z_wk_e (z_wk_0)))))) (t_X11_staysFor n cx ce a0 S h))
abbrev M_X11_lesserOf : z_M := (RX11, yX11_lesserOf, cX11_lesserOf, 4, some .long)
theorem mo_X11_lesserOf : z_mo M_X11_lesserOf 2 := ⟨tb_654, tb_5, rfl, ⟨by decide +kernel, by decide +kernel⟩, by decide +kernel, by decide⟩
theorem ms_X11_lesserOf : z_ms M_X11_lesserOf := tb_653
def f_X11_lesserOf (a0 : Int64) (a1 : Int64) (S : z_Stt) : Option (Int64 × z_Stt) :=
  if 0 ≤ lg_cmp a0 a1 then
    some (a1, S)
  else
    some (a0, S)
set_option maxHeartbeats 4000000 in
set_option maxRecDepth 100000 in
theorem t_X11_lesserOf {g : z_G} {K : z_K} {v : Int64} {S' : z_Stt} (cx : z_C g M_X11_lesserOf 0 K) (ce : z_E' g M_X11_lesserOf (z_P g (some (.long v)) S') K) (a0 : Int64) (a1 : Int64) (S : z_Stt) (h : f_X11_lesserOf a0 a1 S = some (v, S')) : z_At g M_X11_lesserOf K 0 [some (.long a0), none, some (.long a1), none] [] (hp g S) := by
  unfold f_X11_lesserOf at h
  refine z_lload_n cx rfl rfl dX11_lesserOf_0 ?_
  refine z_lload_n cx rfl rfl dX11_lesserOf_1 ?_
  refine z_lcmp cx dX11_lesserOf_2 ?_
  refine z_if_ge (tgt := 10) cx (by decide) dX11_lesserOf_3 (fun c1 => ?_) (fun c1 => ?_)
  · have h := g_t c1 h
    refine z_lload_n cx rfl rfl dX11_lesserOf_10 ?_
    obtain ⟨rfl, rfl⟩ := g_some h
    exact z_lreturn cx ce rfl ⟨rfl, rfl⟩ dX11_lesserOf_11
  · have h := g_f c1 h
    refine z_lload_n cx rfl rfl dX11_lesserOf_6 ?_
    refine z_goto (tgt := 11) cx (by decide) dX11_lesserOf_7 ?_
    obtain ⟨rfl, rfl⟩ := g_some h
    exact z_lreturn cx ce rfl ⟨rfl, rfl⟩ dX11_lesserOf_11
theorem c_X11_lesserOf {g : z_G} (a0 : Int64) (a1 : Int64) (S : z_Stt) {v : Int64} {S' : z_Stt} (h : f_X11_lesserOf a0 a1 S = some (v, S')) : z_Ct g M_X11_lesserOf 0 [.long a0, .long a1] (hp g S) (z_P g (some (.long v)) S') :=
  z_Ct.of (by decide +kernel) rfl (Nat.le_of_ble_eq_true rfl) (fun K cx ce => q_weak (L' := [some (.long a0), none, some (.long a1), none]) (z_wk_s (z_wk_n (z_wk_s (z_wk_n (z_wk_0))))) (t_X11_lesserOf cx ce a0 a1 S h))
abbrev M_X11_best : z_M := (RX11, yX11_best, cX11_best, 11, some .long)
theorem mo_X11_best : z_mo M_X11_best 3 := ⟨tb_631, tb_5, rfl, ⟨by decide +kernel, by decide +kernel⟩, by decide +kernel, by decide⟩
theorem mv_X11_best : z_mv M_X11_best := ⟨tb_629, tb_630⟩
def f_X11_best_141 (n : Nat) (k64 : Int32 → Int32 → Int32 → Int32 → Int64 → Int32 → z_Stt → Option (Int64 × z_Stt)) (x2 : Int32) (x3 : Int32) (x4 : Int32) (x6 : Int64) (x8 : Int32) (x9 : Int64) (y0 : Int32) (S : z_Stt) : Option (Int64 × z_Stt) :=
  g_bd (f_X11_lesserOf x9 x6 S) fun v1 S2 =>
  k64 x2 x3 x4 y0 v1 (x8 + 1) S2
set_option maxHeartbeats 4000000 in
set_option maxRecDepth 100000 in
theorem t_X11_best_141 {g : z_G} {K : z_K} (n : Nat) {v : Int64} {S' : z_Stt} (cx : z_C g M_X11_best 4 K) (ce : z_E' g M_X11_best (z_P g (some (.long v)) S') K) (k64 : Int32 → Int32 → Int32 → Int32 → Int64 → Int32 → z_Stt → Option (Int64 × z_Stt)) (hk64 : ∀ (x2 : Int32) (x3 : Int32) (x4 : Int32) (x5 : Int32) (x6 : Int64) (x8 : Int32) (S : z_Stt), k64 x2 x3 x4 x5 x6 x8 S = some (v, S') → z_At g M_X11_best K 64 [some (.ref (z_ad g 48)), none, some (.int x2), some (.int x3), some (.int x4), some (.int x5), some (.long x6), none, some (.int x8), none, none] [] (hp g S)) (x2 : Int32) (x3 : Int32) (x4 : Int32) (x6 : Int64) (x8 : Int32) (x9 : Int64) (y0 : Int32) (S : z_Stt) (h : f_X11_best_141 n k64 x2 x3 x4 x6 x8 x9 y0 S = some (v, S')) : z_At g M_X11_best K 141 [some (.ref (z_ad g 48)), none, some (.int x2), some (.int x3), some (.int x4), none, some (.long x6), none, some (.int x8), some (.long x9), none] [.int y0] (hp g S) := by
  unfold f_X11_best_141 at h
  refine z_istore (L' := [some (.ref (z_ad g 48)), none, some (.int x2), some (.int x3), some (.int x4), some (.int y0), some (.long x6), none, some (.int x8), some (.long x9), none]) cx (by decide) rfl dX11_best_141 ?_
  refine z_lload cx rfl dX11_best_143 ?_
  refine z_lload cx rfl dX11_best_145 ?_
  obtain ⟨v1, S2, e3, h⟩ := g_bd_ex h
  refine q_csl (As := [.long x9, .long x6]) cx mo_X11_lesserOf ms_X11_lesserOf tb_652 (by decide) rfl rfl (Nat.le_of_ble_eq_true rfl) dX11_best_147 (c_X11_lesserOf x9 x6 _ e3) ?_
  refine z_lstore (L' := [some (.ref (z_ad g 48)), none, some (.int x2), some (.int x3), some (.int x4), some (.int y0), some (.long v1), none, some (.int x8), some (.long x9), none]) cx (by decide) rfl dX11_best_150 ?_
  refine z_iinc (c := 1) (L' := [some (.ref (z_ad g 48)), none, some (.int x2), some (.int x3), some (.int x4), some (.int y0), some (.long v1), none, some (.int (x8 + 1)), some (.long x9), none]) cx rfl (by decide +kernel) (by decide) rfl dX11_best_152 ?_
  refine z_goto (tgt := 64) cx (by decide) dX11_best_155 ?_
  exact q_weak (z_wk_s (z_wk_n (z_wk_s (z_wk_s (z_wk_s (z_wk_s (z_wk_s (z_wk_n (z_wk_s (z_wk_n (z_wk_n (z_wk_0)))))))))))) (hk64 x2 x3 x4 y0 v1 (x8 + 1) S2 h)
def f_X11_best_124 (n : Nat) (k64 : Int32 → Int32 → Int32 → Int32 → Int64 → Int32 → z_Stt → Option (Int64 × z_Stt)) (x2 : Int32) (x3 : Int32) (x4 : Int32) (x5 : Int32) (x6 : Int64) (x8 : Int32) (y0 : Int64) (S : z_Stt) : Option (Int64 × z_Stt) :=
  if 0 ≤ lg_cmp y0 x6 then
    f_X11_best_141 n k64 x2 x3 x4 x6 x8 y0 x5 S
  else
    f_X11_best_141 n k64 x2 x3 x4 x6 x8 y0 x8 S
set_option maxHeartbeats 4000000 in
set_option maxRecDepth 100000 in
theorem t_X11_best_124 {g : z_G} {K : z_K} (n : Nat) {v : Int64} {S' : z_Stt} (cx : z_C g M_X11_best 4 K) (ce : z_E' g M_X11_best (z_P g (some (.long v)) S') K) (k64 : Int32 → Int32 → Int32 → Int32 → Int64 → Int32 → z_Stt → Option (Int64 × z_Stt)) (hk64 : ∀ (x2 : Int32) (x3 : Int32) (x4 : Int32) (x5 : Int32) (x6 : Int64) (x8 : Int32) (S : z_Stt), k64 x2 x3 x4 x5 x6 x8 S = some (v, S') → z_At g M_X11_best K 64 [some (.ref (z_ad g 48)), none, some (.int x2), some (.int x3), some (.int x4), some (.int x5), some (.long x6), none, some (.int x8), none, none] [] (hp g S)) (x2 : Int32) (x3 : Int32) (x4 : Int32) (x5 : Int32) (x6 : Int64) (x8 : Int32) (y0 : Int64) (S : z_Stt) (h : f_X11_best_124 n k64 x2 x3 x4 x5 x6 x8 y0 S = some (v, S')) : z_At g M_X11_best K 124 [some (.ref (z_ad g 48)), none, some (.int x2), some (.int x3), some (.int x4), some (.int x5), some (.long x6), none, some (.int x8), none, none] [.long y0] (hp g S) := by
  unfold f_X11_best_124 at h
  refine z_lstore (L' := [some (.ref (z_ad g 48)), none, some (.int x2), some (.int x3), some (.int x4), some (.int x5), some (.long x6), none, some (.int x8), some (.long y0), none]) cx (by decide) rfl dX11_best_124 ?_
  refine z_lload cx rfl dX11_best_126 ?_
  refine z_lload cx rfl dX11_best_128 ?_
  refine z_lcmp cx dX11_best_130 ?_
  refine z_if_ge (tgt := 139) cx (by decide) dX11_best_131 (fun c1 => ?_) (fun c1 => ?_)
  · have h := g_t c1 h
    refine z_iload cx rfl dX11_best_139 ?_
    exact q_weak (z_wk_s (z_wk_n (z_wk_s (z_wk_s (z_wk_s (z_wk_n (z_wk_s (z_wk_n (z_wk_s (z_wk_s (z_wk_n (z_wk_0)))))))))))) (t_X11_best_141 n cx ce k64 hk64 x2 x3 x4 x6 x8 y0 x5 S h)
  · have h := g_f c1 h
    refine z_iload cx rfl dX11_best_134 ?_
    refine z_goto (tgt := 141) cx (by decide) dX11_best_136 ?_
    exact q_weak (z_wk_s (z_wk_n (z_wk_s (z_wk_s (z_wk_s (z_wk_n (z_wk_s (z_wk_n (z_wk_s (z_wk_s (z_wk_n (z_wk_0)))))))))))) (t_X11_best_141 n cx ce k64 hk64 x2 x3 x4 x6 x8 y0 x8 S h)
def f_X11_best_64 (n : Nat) : Nat → Int32 → Int32 → Int32 → Int32 → Int64 → Int32 → z_Stt → Option (Int64 × z_Stt)
  | 0, _, _, _, _, _, _, _ => none
  | m + 1, x2, x3, x4, x5, x6, x8, S =>
    if x4 < x8 then
      if x3 = 2 then
        some (Int32.toInt64 x5, S)
      else
        g_bd (f_X11_partOf n x6 (S.2.1 4825) x3 S) fun v3 S4 =>
        some (v3, S4)
    else
      if x8 &&& (x4 ^^^ (-1)) = 0 then
        g_bd (f_X11_backCosts x2 S) fun v7 S8 =>
        if ¬ ((37 : Int32) < 0 ∨ 75 ≤ (37 : Int32).toNatClampNeg) then
          g_bd (f_X11_bitsOf n x8 S8) fun v11 S12 =>
          g_bd (f_X11_staysFor n (x4 &&& (x8 ^^^ (-1))) S12) fun v14 S15 =>
          f_X11_best_124 n (f_X11_best_64 n m) x2 x3 x4 x5 x6 x8 (((Int32.toInt64 (v7 + ((S8.2.2.1 49 (37 : Int32).toNatClampNeg) * v11))) * (S12.2.1 4825)) + v14) S15
        else none
      else
        f_X11_best_124 n (f_X11_best_64 n m) x2 x3 x4 x5 x6 x8 9223372036854775807 S
set_option maxHeartbeats 4000000 in
set_option maxRecDepth 100000 in
theorem t_X11_best_64 {g : z_G} {K : z_K} (n : Nat) {v : Int64} {S' : z_Stt} (cx : z_C g M_X11_best 4 K) (ce : z_E' g M_X11_best (z_P g (some (.long v)) S') K) : ∀ (m : Nat) (x2 : Int32) (x3 : Int32) (x4 : Int32) (x5 : Int32) (x6 : Int64) (x8 : Int32) (S : z_Stt) (h : f_X11_best_64 n m x2 x3 x4 x5 x6 x8 S = some (v, S')), z_At g M_X11_best K 64 [some (.ref (z_ad g 48)), none, some (.int x2), some (.int x3), some (.int x4), some (.int x5), some (.long x6), none, some (.int x8), none, none] [] (hp g S) := by
  intro m
  induction m with
  | zero => intro x2 x3 x4 x5 x6 x8 S h; simp [f_X11_best_64] at h
  | succ m ih =>
    intro x2 x3 x4 x5 x6 x8 S h
    rw [f_X11_best_64] at h
    refine z_iload cx rfl dX11_best_64 ?_
    refine z_iload cx rfl dX11_best_66 ?_
    refine z_icmp_gt (tgt := 158) cx (by decide) dX11_best_68 (fun c1 => ?_) (fun c1 => ?_)
    · have h := g_t c1 h
      refine z_iload_n cx rfl rfl dX11_best_158 ?_
      refine z_iconst (v := 2) cx (by decide +kernel) dX11_best_159 ?_
      refine z_icmp_ne (tgt := 169) cx (by decide) dX11_best_160 (fun c2 => ?_) (fun c2 => ?_)
      · have h := g_f c2 h
        refine z_lload cx rfl dX11_best_169 ?_
        refine z_aload_n cx rfl rfl dX11_best_171 ?_
        refine q_getJ (k := 48) (n := 4825) cx z_cl11 (j := 25) (by decide) tb_633 rfl (by decide) rfl rfl rfl dX11_best_172 ?_
        refine z_iload_n cx rfl rfl dX11_best_175 ?_
        obtain ⟨v3, S4, e5, h⟩ := g_bd_ex h
        refine q_csl (As := [.long x6, .long (S.2.1 4825), .int x3]) cx mo_X11_partOf ms_X11_partOf tb_508 (by decide) rfl rfl (Nat.le_of_ble_eq_true rfl) dX11_best_176 (c_X11_partOf x6 (S.2.1 4825) x3 _ e5) ?_
        obtain ⟨rfl, rfl⟩ := g_some h
        exact z_lreturn cx ce rfl ⟨rfl, rfl⟩ dX11_best_179
      · have h := g_t c2 h
        refine z_iload cx rfl dX11_best_163 ?_
        refine z_i2l cx dX11_best_165 ?_
        refine z_goto (tgt := 179) cx (by decide) dX11_best_166 ?_
        obtain ⟨rfl, rfl⟩ := g_some h
        exact z_lreturn cx ce rfl ⟨rfl, rfl⟩ dX11_best_179
    · have h := g_f c1 h
      refine z_iload cx rfl dX11_best_71 ?_
      refine z_iload cx rfl dX11_best_73 ?_
      refine z_iconst (v := (-1)) cx (by decide +kernel) dX11_best_75 ?_
      refine z_ixor cx dX11_best_76 ?_
      refine z_iand cx dX11_best_77 ?_
      refine z_if_eq (tgt := 87) cx (by decide) dX11_best_78 (fun c6 => ?_) (fun c6 => ?_)
      · have h := g_t c6 h
        refine z_aload_n cx rfl rfl dX11_best_87 ?_
        refine z_iload_n cx rfl rfl dX11_best_88 ?_
        obtain ⟨v7, S8, e9, h⟩ := g_bd_ex h
        refine q_cvi (As := [.int x2]) cx mo_X11_backCosts mv_X11_backCosts z_cl11 rfl tb_552 (by decide) rfl (by decide) rfl rfl (Nat.le_of_ble_eq_true rfl) dX11_best_89 (c_X11_backCosts x2 _ e9) ?_
        refine z_aload_n cx rfl rfl dX11_best_92 ?_
        refine q_getF (k := 48) (n := 49) (r := 1) cx z_cl11 (j := 0) (by decide) tb_141 rfl (by decide) rfl rfl rfl dX11_best_93 ?_
        refine z_bipush (v := 37) cx (by decide +kernel) dX11_best_96 ?_
        obtain ⟨c10, h⟩ := g_if h
        refine q_iald cx (by decide) rfl c10 dX11_best_98 ?_
        refine z_iload cx rfl dX11_best_99 ?_
        obtain ⟨v11, S12, e13, h⟩ := g_bd_ex h
        refine q_csi (As := [.int x8]) cx mo_X11_bitsOf ms_X11_bitsOf tb_638 (by decide) rfl rfl (Nat.le_of_ble_eq_true rfl) dX11_best_101 (c_X11_bitsOf x8 _ e13) ?_
        refine z_imul cx dX11_best_104 ?_
        refine z_iadd cx dX11_best_105 ?_
        refine z_i2l cx dX11_best_106 ?_
        refine z_aload_n cx rfl rfl dX11_best_107 ?_
        refine q_getJ (k := 48) (n := 4825) cx z_cl11 (j := 25) (by decide) tb_633 rfl (by decide) rfl rfl rfl dX11_best_108 ?_
        refine z_lmul cx dX11_best_111 ?_
        refine z_aload_n cx rfl rfl dX11_best_112 ?_
        refine z_iload cx rfl dX11_best_113 ?_
        refine z_iload cx rfl dX11_best_115 ?_
        refine z_iconst (v := (-1)) cx (by decide +kernel) dX11_best_117 ?_
        refine z_ixor cx dX11_best_118 ?_
        refine z_iand cx dX11_best_119 ?_
        obtain ⟨v14, S15, e16, h⟩ := g_bd_ex h
        refine q_cvl (As := [.int (x4 &&& (x8 ^^^ (-1)))]) cx mo_X11_staysFor mv_X11_staysFor z_cl11 rfl tb_648 (by decide) rfl (by decide) rfl rfl (Nat.le_of_ble_eq_true rfl) dX11_best_120 (c_X11_staysFor (x4 &&& (x8 ^^^ (-1))) _ e16) ?_
        refine z_ladd cx dX11_best_123 ?_
        exact q_weak (z_wk_s (z_wk_n (z_wk_s (z_wk_s (z_wk_s (z_wk_s (z_wk_s (z_wk_n (z_wk_s (z_wk_n (z_wk_n (z_wk_0)))))))))))) (t_X11_best_124 n cx ce (f_X11_best_64 n m) ih x2 x3 x4 x5 x6 x8 (((Int32.toInt64 (v7 + ((S8.2.2.1 49 (37 : Int32).toNatClampNeg) * v11))) * (S12.2.1 4825)) + v14) S15 h)
      · have h := g_f c6 h
        refine z_ldc2 cx tb_632 dX11_best_81 ?_
        refine z_goto (tgt := 124) cx (by decide) dX11_best_84 ?_
        exact q_weak (z_wk_s (z_wk_n (z_wk_s (z_wk_s (z_wk_s (z_wk_s (z_wk_s (z_wk_n (z_wk_s (z_wk_n (z_wk_n (z_wk_0)))))))))))) (t_X11_best_124 n cx ce (f_X11_best_64 n m) ih x2 x3 x4 x5 x6 x8 9223372036854775807 S h)
def f_X11_best (n : Nat) (a0 : Int32) (a1 : Int32) (a2 : Int32) (S : z_Stt) : Option (Int64 × z_Stt) :=
  g_bd (f_X11_isDr n a0 S) fun v1 S2 =>
  if v1 = true then
    g_bd (f_X11_isYards (Int32.toInt64 a1) S2) fun v5 S6 =>
    if v5 = true then
      g_bd (f_X11_within (Int32.toInt64 a2) 0 2 S6) fun v9 S10 =>
      if v9 = true then
        g_bd (f_X11_asksAll n a0 S10) fun v13 S14 =>
        if v13 = true then
          g_bd (f_X11_staysFor n (a0 % 64) S14) fun v17 S18 =>
          f_X11_best_64 n n a1 a2 (a0 % 64) 0 v17 1 S18
        else
          some ((-2), S14)
      else
        some ((-9223372036854775808), S10)
    else
      some ((-9223372036854775808), S6)
  else
    some ((-9223372036854775808), S2)
set_option maxHeartbeats 4000000 in
set_option maxRecDepth 100000 in
theorem t_X11_best {g : z_G} {K : z_K} (n : Nat) {v : Int64} {S' : z_Stt} (cx : z_C g M_X11_best 4 K) (ce : z_E' g M_X11_best (z_P g (some (.long v)) S') K) (a0 : Int32) (a1 : Int32) (a2 : Int32) (S : z_Stt) (h : f_X11_best n a0 a1 a2 S = some (v, S')) : z_At g M_X11_best K 0 [some (.ref (z_ad g 48)), some (.int a0), some (.int a1), some (.int a2), none, none, none, none, none, none, none] [] (hp g S) := by
  unfold f_X11_best at h
  refine z_aload_n cx rfl rfl dX11_best_0 ?_
  refine z_iload_n cx rfl rfl dX11_best_1 ?_
  obtain ⟨v1, S2, e3, h⟩ := g_bd_ex h
  refine q_cvi (As := [.int a0]) cx mo_X11_isDr mv_X11_isDr z_cl11 rfl tb_634 (by decide) rfl (by decide) rfl rfl (Nat.le_of_ble_eq_true rfl) dX11_best_2 (c_X11_isDr a0 _ e3) ?_
  refine q_ifb_eq (tgt := 28) cx (by decide) dX11_best_5 (fun c4 => ?_) (fun c4 => ?_)
  · have h := g_f (Bool.eq_false_iff.mp c4) h
    refine z_ldc2 cx tb_485 dX11_best_28 ?_
    obtain ⟨rfl, rfl⟩ := g_some h
    exact z_lreturn cx ce rfl ⟨rfl, rfl⟩ dX11_best_31
  · have h := g_t c4 h
    refine z_iload_n cx rfl rfl dX11_best_8 ?_
    refine z_i2l cx dX11_best_9 ?_
    obtain ⟨v5, S6, e7, h⟩ := g_bd_ex h
    refine q_csi (As := [.long (Int32.toInt64 a1)]) cx mo_X11_isYards ms_X11_isYards tb_544 (by decide) rfl rfl (Nat.le_of_ble_eq_true rfl) dX11_best_10 (c_X11_isYards (Int32.toInt64 a1) _ e7) ?_
    refine q_ifb_eq (tgt := 28) cx (by decide) dX11_best_13 (fun c8 => ?_) (fun c8 => ?_)
    · have h := g_f (Bool.eq_false_iff.mp c8) h
      refine z_ldc2 cx tb_485 dX11_best_28 ?_
      obtain ⟨rfl, rfl⟩ := g_some h
      exact z_lreturn cx ce rfl ⟨rfl, rfl⟩ dX11_best_31
    · have h := g_t c8 h
      refine z_iload_n cx rfl rfl dX11_best_16 ?_
      refine z_i2l cx dX11_best_17 ?_
      refine z_lconst (v := 0) cx (by decide +kernel) dX11_best_18 ?_
      refine z_ldc2 cx tb_484 dX11_best_19 ?_
      obtain ⟨v9, S10, e11, h⟩ := g_bd_ex h
      refine q_csi (As := [.long (Int32.toInt64 a2), .long 0, .long 2]) cx mo_X11_within ms_X11_within tb_185 (by decide) rfl rfl (Nat.le_of_ble_eq_true rfl) dX11_best_22 (c_X11_within (Int32.toInt64 a2) 0 2 _ e11) ?_
      refine q_ifb_ne (tgt := 32) cx (by decide) dX11_best_25 (fun c12 => ?_) (fun c12 => ?_)
      · have h := g_t c12 h
        refine z_aload_n cx rfl rfl dX11_best_32 ?_
        refine z_iload_n cx rfl rfl dX11_best_33 ?_
        obtain ⟨v13, S14, e15, h⟩ := g_bd_ex h
        refine q_cvi (As := [.int a0]) cx mo_X11_asksAll mv_X11_asksAll z_cl11 rfl tb_641 (by decide) rfl (by decide) rfl rfl (Nat.le_of_ble_eq_true rfl) dX11_best_34 (c_X11_asksAll a0 _ e15) ?_
        refine q_ifb_ne (tgt := 44) cx (by decide) dX11_best_37 (fun c16 => ?_) (fun c16 => ?_)
        · have h := g_t c16 h
          refine z_iload_n cx rfl rfl dX11_best_44 ?_
          refine z_bipush (v := 64) cx (by decide +kernel) dX11_best_45 ?_
          refine z_irem cx (by decide +kernel) dX11_best_47 ?_
          refine z_istore (L' := [some (.ref (z_ad g 48)), some (.int a0), some (.int a1), some (.int a2), some (.int (a0 % 64)), none, none, none, none, none, none]) cx (by decide) rfl dX11_best_48 ?_
          refine z_iconst (v := 0) cx (by decide +kernel) dX11_best_50 ?_
          refine z_istore (L' := [some (.ref (z_ad g 48)), some (.int a0), some (.int a1), some (.int a2), some (.int (a0 % 64)), some (.int 0), none, none, none, none, none]) cx (by decide) rfl dX11_best_51 ?_
          refine z_aload_n cx rfl rfl dX11_best_53 ?_
          refine z_iload cx rfl dX11_best_54 ?_
          obtain ⟨v17, S18, e19, h⟩ := g_bd_ex h
          refine q_cvl (As := [.int (a0 % 64)]) cx mo_X11_staysFor mv_X11_staysFor z_cl11 rfl tb_648 (by decide) rfl (by decide) rfl rfl (Nat.le_of_ble_eq_true rfl) dX11_best_56 (c_X11_staysFor (a0 % 64) _ e19) ?_
          refine z_lstore (L' := [some (.ref (z_ad g 48)), some (.int a0), some (.int a1), some (.int a2), some (.int (a0 % 64)), some (.int 0), some (.long v17), none, none, none, none]) cx (by decide) rfl dX11_best_59 ?_
          refine z_iconst (v := 1) cx (by decide +kernel) dX11_best_61 ?_
          refine z_istore (L' := [some (.ref (z_ad g 48)), some (.int a0), some (.int a1), some (.int a2), some (.int (a0 % 64)), some (.int 0), some (.long v17), none, some (.int 1), none, none]) cx (by decide) rfl dX11_best_62 ?_
          exact q_weak (z_wk_s (z_wk_n (z_wk_s (z_wk_s (z_wk_s (z_wk_s (z_wk_s (z_wk_n (z_wk_s (z_wk_n (z_wk_n (z_wk_0)))))))))))) (t_X11_best_64 n cx ce n a1 a2 (a0 % 64) 0 v17 1 S18 h)
        · have h := g_f (Bool.eq_false_iff.mp c16) h
          refine z_ldc2 cx tb_488 dX11_best_40 ?_
          obtain ⟨rfl, rfl⟩ := g_some h
          exact z_lreturn cx ce rfl ⟨rfl, rfl⟩ dX11_best_43
      · have h := g_f (Bool.eq_false_iff.mp c12) h
        refine z_ldc2 cx tb_485 dX11_best_28 ?_
        obtain ⟨rfl, rfl⟩ := g_some h
        exact z_lreturn cx ce rfl ⟨rfl, rfl⟩ dX11_best_31
theorem c_X11_best {g : z_G} {n : Nat} (a0 : Int32) (a1 : Int32) (a2 : Int32) (S : z_Stt) {v : Int64} {S' : z_Stt} (h : f_X11_best n a0 a1 a2 S = some (v, S')) : z_Ct g M_X11_best 4 [.ref (z_ad g 48), .int a0, .int a1, .int a2] (hp g S) (z_P g (some (.long v)) S') :=
  z_Ct.of (by decide +kernel) rfl (Nat.le_of_ble_eq_true rfl) (fun K cx ce => q_weak (L' := [some (.ref (z_ad g 48)), some (.int a0), some (.int a1), some (.int a2), none, none, none, none, none, none, none]) (z_wk_s (z_wk_s (z_wk_s (z_wk_s (z_wk_e (z_wk_e (z_wk_e (z_wk_e (z_wk_e (z_wk_e (z_wk_e (z_wk_0)))))))))))) (t_X11_best n cx ce a0 a1 a2 S h))
abbrev M_X11_gone : z_M := (RX11, yX11_gone, cX11_gone, 7, some .int)
theorem mo_X11_gone : z_mo M_X11_gone 2 := ⟨tb_676, tb_5, rfl, ⟨by decide +kernel, by decide +kernel⟩, by decide +kernel, by decide⟩
theorem mv_X11_gone : z_mv M_X11_gone := ⟨tb_674, tb_675⟩
def f_X11_gone_126 (n : Nat) (k37 : Int32 → Int32 → Int32 → Int32 → Int32 → z_Stt → Option (Int32 × z_Stt)) (x1 : Int32) (x2 : Int32) (x3 : Int32) (x4 : Int32) (x5 : Int32) (S : z_Stt) : Option (Int32 × z_Stt) :=
  k37 x1 x2 x3 x4 (x5 + 1) S
set_option maxHeartbeats 4000000 in
set_option maxRecDepth 100000 in
theorem t_X11_gone_126 {g : z_G} {K : z_K} (n : Nat) {v : Int32} {S' : z_Stt} (cx : z_C g M_X11_gone 68 K) (ce : z_E' g M_X11_gone (z_P g (some (.int v)) S') K) (k37 : Int32 → Int32 → Int32 → Int32 → Int32 → z_Stt → Option (Int32 × z_Stt)) (hk37 : ∀ (x1 : Int32) (x2 : Int32) (x3 : Int32) (x4 : Int32) (x5 : Int32) (S : z_Stt), k37 x1 x2 x3 x4 x5 S = some (v, S') → z_At g M_X11_gone K 37 [some (.ref (z_ad g 48)), some (.int x1), some (.int x2), some (.int x3), some (.int x4), some (.int x5), none] [] (hp g S)) (x1 : Int32) (x2 : Int32) (x3 : Int32) (x4 : Int32) (x5 : Int32) (S : z_Stt) (h : f_X11_gone_126 n k37 x1 x2 x3 x4 x5 S = some (v, S')) : z_At g M_X11_gone K 126 [some (.ref (z_ad g 48)), some (.int x1), some (.int x2), some (.int x3), some (.int x4), some (.int x5), none] [] (hp g S) := by
  unfold f_X11_gone_126 at h
  refine z_iinc (c := 1) (L' := [some (.ref (z_ad g 48)), some (.int x1), some (.int x2), some (.int x3), some (.int x4), some (.int (x5 + 1)), none]) cx rfl (by decide +kernel) (by decide) rfl dX11_gone_126 ?_
  refine z_goto (tgt := 37) cx (by decide) dX11_gone_129 ?_
  exact q_weak (z_wk_s (z_wk_s (z_wk_s (z_wk_s (z_wk_s (z_wk_s (z_wk_n (z_wk_0)))))))) (hk37 x1 x2 x3 x4 (x5 + 1) S h)
def f_X11_gone_82 (n : Nat) (k37 : Int32 → Int32 → Int32 → Int32 → Int32 → z_Stt → Option (Int32 × z_Stt)) (x1 : Int32) (x2 : Int32) (x3 : Int32) (x4 : Int32) (x5 : Int32) (y0 : Int32) (S : z_Stt) : Option (Int32 × z_Stt) :=
  g_bd (f_X11_isIn (x1 % 64) x5 S) fun v1 S2 =>
  if v1 = true then
    g_bd (f_X11_numberOf x5 3 S2) fun v5 S6 =>
    if y0 * v5 ≤ x4 then
      f_X11_gone_126 n k37 x1 x2 x3 x4 x5 S6
    else
      g_bd (f_X11_numberOf x5 3 S6) fun v9 S10 =>
      f_X11_gone_126 n k37 x1 x2 x5 (y0 * v9) x5 S10
  else
    f_X11_gone_126 n k37 x1 x2 x3 x4 x5 S2
set_option maxHeartbeats 4000000 in
set_option maxRecDepth 100000 in
theorem t_X11_gone_82 {g : z_G} {K : z_K} (n : Nat) {v : Int32} {S' : z_Stt} (cx : z_C g M_X11_gone 68 K) (ce : z_E' g M_X11_gone (z_P g (some (.int v)) S') K) (k37 : Int32 → Int32 → Int32 → Int32 → Int32 → z_Stt → Option (Int32 × z_Stt)) (hk37 : ∀ (x1 : Int32) (x2 : Int32) (x3 : Int32) (x4 : Int32) (x5 : Int32) (S : z_Stt), k37 x1 x2 x3 x4 x5 S = some (v, S') → z_At g M_X11_gone K 37 [some (.ref (z_ad g 48)), some (.int x1), some (.int x2), some (.int x3), some (.int x4), some (.int x5), none] [] (hp g S)) (x1 : Int32) (x2 : Int32) (x3 : Int32) (x4 : Int32) (x5 : Int32) (y0 : Int32) (S : z_Stt) (h : f_X11_gone_82 n k37 x1 x2 x3 x4 x5 y0 S = some (v, S')) : z_At g M_X11_gone K 82 [some (.ref (z_ad g 48)), some (.int x1), some (.int x2), some (.int x3), some (.int x4), some (.int x5), none] [.int y0] (hp g S) := by
  unfold f_X11_gone_82 at h
  refine z_istore (L' := [some (.ref (z_ad g 48)), some (.int x1), some (.int x2), some (.int x3), some (.int x4), some (.int x5), some (.int y0)]) cx (by decide) rfl dX11_gone_82 ?_
  refine z_iload_n cx rfl rfl dX11_gone_84 ?_
  refine z_bipush (v := 64) cx (by decide +kernel) dX11_gone_85 ?_
  refine z_irem cx (by decide +kernel) dX11_gone_87 ?_
  refine z_iload cx rfl dX11_gone_88 ?_
  obtain ⟨v1, S2, e3, h⟩ := g_bd_ex h
  refine q_csi (As := [.int (x1 % 64), .int x5]) cx mo_X11_isIn ms_X11_isIn tb_645 (by decide) rfl rfl (Nat.le_of_ble_eq_true rfl) dX11_gone_90 (c_X11_isIn (x1 % 64) x5 _ e3) ?_
  refine q_ifb_eq (tgt := 126) cx (by decide) dX11_gone_93 (fun c4 => ?_) (fun c4 => ?_)
  · have h := g_f (Bool.eq_false_iff.mp c4) h
    exact q_weak (z_wk_s (z_wk_s (z_wk_s (z_wk_s (z_wk_s (z_wk_s (z_wk_n (z_wk_0)))))))) (t_X11_gone_126 n cx ce k37 hk37 x1 x2 x3 x4 x5 S2 h)
  · have h := g_t c4 h
    refine z_iload cx rfl dX11_gone_96 ?_
    refine z_aload_n cx rfl rfl dX11_gone_98 ?_
    refine z_iload cx rfl dX11_gone_99 ?_
    refine z_iconst (v := 3) cx (by decide +kernel) dX11_gone_101 ?_
    obtain ⟨v5, S6, e7, h⟩ := g_bd_ex h
    refine q_cvi (As := [.int x5, .int 3]) cx mo_X11_numberOf mv_X11_numberOf z_cl11 rfl tb_496 (by decide) rfl (by decide) rfl rfl (Nat.le_of_ble_eq_true rfl) dX11_gone_102 (c_X11_numberOf x5 3 _ e7) ?_
    refine z_imul cx dX11_gone_105 ?_
    refine z_iload cx rfl dX11_gone_106 ?_
    refine z_icmp_le (tgt := 126) cx (by decide) dX11_gone_108 (fun c8 => ?_) (fun c8 => ?_)
    · have h := g_t c8 h
      exact q_weak (z_wk_s (z_wk_s (z_wk_s (z_wk_s (z_wk_s (z_wk_s (z_wk_n (z_wk_0)))))))) (t_X11_gone_126 n cx ce k37 hk37 x1 x2 x3 x4 x5 S6 h)
    · have h := g_f c8 h
      refine z_iload cx rfl dX11_gone_111 ?_
      refine z_istore_n (L' := [some (.ref (z_ad g 48)), some (.int x1), some (.int x2), some (.int x5), some (.int x4), some (.int x5), some (.int y0)]) cx rfl (by decide) rfl dX11_gone_113 ?_
      refine z_iload cx rfl dX11_gone_114 ?_
      refine z_aload_n cx rfl rfl dX11_gone_116 ?_
      refine z_iload cx rfl dX11_gone_117 ?_
      refine z_iconst (v := 3) cx (by decide +kernel) dX11_gone_119 ?_
      obtain ⟨v9, S10, e11, h⟩ := g_bd_ex h
      refine q_cvi (As := [.int x5, .int 3]) cx mo_X11_numberOf mv_X11_numberOf z_cl11 rfl tb_496 (by decide) rfl (by decide) rfl rfl (Nat.le_of_ble_eq_true rfl) dX11_gone_120 (c_X11_numberOf x5 3 _ e11) ?_
      refine z_imul cx dX11_gone_123 ?_
      refine z_istore (L' := [some (.ref (z_ad g 48)), some (.int x1), some (.int x2), some (.int x5), some (.int (y0 * v9)), some (.int x5), some (.int y0)]) cx (by decide) rfl dX11_gone_124 ?_
      exact q_weak (z_wk_s (z_wk_s (z_wk_s (z_wk_s (z_wk_s (z_wk_s (z_wk_n (z_wk_0)))))))) (t_X11_gone_126 n cx ce k37 hk37 x1 x2 x5 (y0 * v9) x5 S10 h)
def f_X11_gone_37 (n : Nat) : Nat → Int32 → Int32 → Int32 → Int32 → Int32 → z_Stt → Option (Int32 × z_Stt)
  | 0, _, _, _, _, _, _ => none
  | m + 1, x1, x2, x3, x4, x5, S =>
    if S.1 4806 ≤ x5 then
      if 0 ≤ x3 then
        if ¬ (x3 < 0 ∨ 6 ≤ x3.toNatClampNeg) then
          if ¬ (x3 < 0 ∨ 6 ≤ x3.toNatClampNeg) then
            if ¬ S.2.2.2.1 59 x3.toNatClampNeg = 0 then
              g_bd (f_X11_numberOf x3 3 S) fun v6 S7 =>
              g_bd (f_X11_bitsOf n (x1 % 64) S7) fun v9 S10 =>
              g_bd (f_X11_goesBy n (Int64.toInt32 ((144 * (S.2.2.2.1 58 x3.toNatClampNeg)) / (S.2.2.2.1 59 x3.toNatClampNeg))) v6 x2 v9 S10) fun v12 S13 =>
              if v12 = true then
                some (1, S13)
              else
                some (0, S13)
            else none
          else none
        else none
      else
        some (0, S)
    else
      g_bd (f_X11_isIn (x1 % 64) x5 S) fun v16 S17 =>
      if v16 = true then
        if ¬ (x5 < 0 ∨ 6 ≤ x5.toNatClampNeg) then
          if ¬ (x5 < 0 ∨ 6 ≤ x5.toNatClampNeg) then
            if ¬ S17.2.2.2.1 59 x5.toNatClampNeg = 0 then
              f_X11_gone_82 n (f_X11_gone_37 n m) x1 x2 x3 x4 x5 (Int64.toInt32 ((144 * (S17.2.2.2.1 58 x5.toNatClampNeg)) / (S17.2.2.2.1 59 x5.toNatClampNeg))) S17
            else none
          else none
        else none
      else
        f_X11_gone_82 n (f_X11_gone_37 n m) x1 x2 x3 x4 x5 0 S17
set_option maxHeartbeats 4000000 in
set_option maxRecDepth 100000 in
theorem t_X11_gone_37 {g : z_G} {K : z_K} (n : Nat) {v : Int32} {S' : z_Stt} (cx : z_C g M_X11_gone 68 K) (ce : z_E' g M_X11_gone (z_P g (some (.int v)) S') K) : ∀ (m : Nat) (x1 : Int32) (x2 : Int32) (x3 : Int32) (x4 : Int32) (x5 : Int32) (S : z_Stt) (h : f_X11_gone_37 n m x1 x2 x3 x4 x5 S = some (v, S')), z_At g M_X11_gone K 37 [some (.ref (z_ad g 48)), some (.int x1), some (.int x2), some (.int x3), some (.int x4), some (.int x5), none] [] (hp g S) := by
  intro m
  induction m with
  | zero => intro x1 x2 x3 x4 x5 S h; simp [f_X11_gone_37] at h
  | succ m ih =>
    intro x1 x2 x3 x4 x5 S h
    rw [f_X11_gone_37] at h
    refine z_iload cx rfl dX11_gone_37 ?_
    refine z_aload_n cx rfl rfl dX11_gone_39 ?_
    refine q_getI (k := 48) (n := 4806) cx z_cl11 (j := 6) (by decide) tb_184 rfl (by decide) rfl rfl rfl dX11_gone_40 ?_
    refine z_icmp_ge (tgt := 132) cx (by decide) dX11_gone_43 (fun c1 => ?_) (fun c1 => ?_)
    · have h := g_t c1 h
      refine z_iload_n cx rfl rfl dX11_gone_132 ?_
      refine z_if_ge (tgt := 138) cx (by decide) dX11_gone_133 (fun c2 => ?_) (fun c2 => ?_)
      · have h := g_t c2 h
        refine z_aload_n cx rfl rfl dX11_gone_138 ?_
        refine z_ldc2 cx tb_182 dX11_gone_139 ?_
        refine z_aload_n cx rfl rfl dX11_gone_142 ?_
        refine q_getF (k := 48) (n := 58) (r := 10) cx z_cl11 (j := 23) (by decide) tb_151 rfl (by decide) rfl rfl rfl dX11_gone_143 ?_
        refine z_iload_n cx rfl rfl dX11_gone_146 ?_
        obtain ⟨c3, h⟩ := g_if h
        refine q_lald cx (by decide) rfl c3 dX11_gone_147 ?_
        refine z_lmul cx dX11_gone_148 ?_
        refine z_aload_n cx rfl rfl dX11_gone_149 ?_
        refine q_getF (k := 48) (n := 59) (r := 11) cx z_cl11 (j := 24) (by decide) tb_152 rfl (by decide) rfl rfl rfl dX11_gone_150 ?_
        refine z_iload_n cx rfl rfl dX11_gone_153 ?_
        obtain ⟨c4, h⟩ := g_if h
        refine q_lald cx (by decide) rfl c4 dX11_gone_154 ?_
        obtain ⟨c5, h⟩ := g_if h
        refine z_ldiv cx c5 dX11_gone_155 ?_
        refine z_l2i cx dX11_gone_156 ?_
        refine z_aload_n cx rfl rfl dX11_gone_157 ?_
        refine z_iload_n cx rfl rfl dX11_gone_158 ?_
        refine z_iconst (v := 3) cx (by decide +kernel) dX11_gone_159 ?_
        obtain ⟨v6, S7, e8, h⟩ := g_bd_ex h
        refine q_cvi (As := [.int x3, .int 3]) cx mo_X11_numberOf mv_X11_numberOf z_cl11 rfl tb_496 (by decide) rfl (by decide) rfl rfl (Nat.le_of_ble_eq_true rfl) dX11_gone_160 (c_X11_numberOf x3 3 _ e8) ?_
        refine z_iload_n cx rfl rfl dX11_gone_163 ?_
        refine z_iload_n cx rfl rfl dX11_gone_164 ?_
        refine z_bipush (v := 64) cx (by decide +kernel) dX11_gone_165 ?_
        refine z_irem cx (by decide +kernel) dX11_gone_167 ?_
        obtain ⟨v9, S10, e11, h⟩ := g_bd_ex h
        refine q_csi (As := [.int (x1 % 64)]) cx mo_X11_bitsOf ms_X11_bitsOf tb_638 (by decide) rfl rfl (Nat.le_of_ble_eq_true rfl) dX11_gone_168 (c_X11_bitsOf (x1 % 64) _ e11) ?_
        obtain ⟨v12, S13, e14, h⟩ := g_bd_ex h
        refine q_cvi (As := [.int (Int64.toInt32 ((144 * (S.2.2.2.1 58 x3.toNatClampNeg)) / (S.2.2.2.1 59 x3.toNatClampNeg))), .int v6, .int x2, .int v9]) cx mo_X11_goesBy mv_X11_goesBy z_cl11 rfl tb_677 (by decide) rfl (by decide) rfl rfl (Nat.le_of_ble_eq_true rfl) dX11_gone_171 (c_X11_goesBy (Int64.toInt32 ((144 * (S.2.2.2.1 58 x3.toNatClampNeg)) / (S.2.2.2.1 59 x3.toNatClampNeg))) v6 x2 v9 _ e14) ?_
        refine q_ifb_eq (tgt := 181) cx (by decide) dX11_gone_174 (fun c15 => ?_) (fun c15 => ?_)
        · have h := g_f (Bool.eq_false_iff.mp c15) h
          refine z_iconst (v := 0) cx (by decide +kernel) dX11_gone_181 ?_
          obtain ⟨rfl, rfl⟩ := g_some h
          exact z_ireturn cx ce rfl ⟨rfl, rfl⟩ dX11_gone_182
        · have h := g_t c15 h
          refine z_iconst (v := 1) cx (by decide +kernel) dX11_gone_177 ?_
          refine z_goto (tgt := 182) cx (by decide) dX11_gone_178 ?_
          obtain ⟨rfl, rfl⟩ := g_some h
          exact z_ireturn cx ce rfl ⟨rfl, rfl⟩ dX11_gone_182
      · have h := g_f c2 h
        refine z_iconst (v := 0) cx (by decide +kernel) dX11_gone_136 ?_
        obtain ⟨rfl, rfl⟩ := g_some h
        exact z_ireturn cx ce rfl ⟨rfl, rfl⟩ dX11_gone_137
    · have h := g_f c1 h
      refine z_iload_n cx rfl rfl dX11_gone_46 ?_
      refine z_bipush (v := 64) cx (by decide +kernel) dX11_gone_47 ?_
      refine z_irem cx (by decide +kernel) dX11_gone_49 ?_
      refine z_iload cx rfl dX11_gone_50 ?_
      obtain ⟨v16, S17, e18, h⟩ := g_bd_ex h
      refine q_csi (As := [.int (x1 % 64), .int x5]) cx mo_X11_isIn ms_X11_isIn tb_645 (by decide) rfl rfl (Nat.le_of_ble_eq_true rfl) dX11_gone_52 (c_X11_isIn (x1 % 64) x5 _ e18) ?_
      refine q_ifb_eq (tgt := 81) cx (by decide) dX11_gone_55 (fun c19 => ?_) (fun c19 => ?_)
      · have h := g_f (Bool.eq_false_iff.mp c19) h
        refine z_iconst (v := 0) cx (by decide +kernel) dX11_gone_81 ?_
        exact q_weak (z_wk_s (z_wk_s (z_wk_s (z_wk_s (z_wk_s (z_wk_s (z_wk_n (z_wk_0)))))))) (t_X11_gone_82 n cx ce (f_X11_gone_37 n m) ih x1 x2 x3 x4 x5 0 S17 h)
      · have h := g_t c19 h
        refine z_ldc2 cx tb_182 dX11_gone_58 ?_
        refine z_aload_n cx rfl rfl dX11_gone_61 ?_
        refine q_getF (k := 48) (n := 58) (r := 10) cx z_cl11 (j := 23) (by decide) tb_151 rfl (by decide) rfl rfl rfl dX11_gone_62 ?_
        refine z_iload cx rfl dX11_gone_65 ?_
        obtain ⟨c20, h⟩ := g_if h
        refine q_lald cx (by decide) rfl c20 dX11_gone_67 ?_
        refine z_lmul cx dX11_gone_68 ?_
        refine z_aload_n cx rfl rfl dX11_gone_69 ?_
        refine q_getF (k := 48) (n := 59) (r := 11) cx z_cl11 (j := 24) (by decide) tb_152 rfl (by decide) rfl rfl rfl dX11_gone_70 ?_
        refine z_iload cx rfl dX11_gone_73 ?_
        obtain ⟨c21, h⟩ := g_if h
        refine q_lald cx (by decide) rfl c21 dX11_gone_75 ?_
        obtain ⟨c22, h⟩ := g_if h
        refine z_ldiv cx c22 dX11_gone_76 ?_
        refine z_l2i cx dX11_gone_77 ?_
        refine z_goto (tgt := 82) cx (by decide) dX11_gone_78 ?_
        exact q_weak (z_wk_s (z_wk_s (z_wk_s (z_wk_s (z_wk_s (z_wk_s (z_wk_n (z_wk_0)))))))) (t_X11_gone_82 n cx ce (f_X11_gone_37 n m) ih x1 x2 x3 x4 x5 (Int64.toInt32 ((144 * (S17.2.2.2.1 58 x5.toNatClampNeg)) / (S17.2.2.2.1 59 x5.toNatClampNeg))) S17 h)
def f_X11_gone (n : Nat) (a0 : Int32) (a1 : Int32) (S : z_Stt) : Option (Int32 × z_Stt) :=
  g_bd (f_X11_isDr n a0 S) fun v1 S2 =>
  if v1 = true then
    g_bd (f_X11_isYards (Int32.toInt64 a1) S2) fun v5 S6 =>
    if v5 = true then
      g_bd (f_X11_asksAll n a0 S6) fun v9 S10 =>
      if v9 = true then
        f_X11_gone_37 n n a0 a1 (-1) (-1) 0 S10
      else
        some ((-2), S10)
    else
      some ((-1), S6)
  else
    some ((-1), S2)
set_option maxHeartbeats 4000000 in
set_option maxRecDepth 100000 in
theorem t_X11_gone {g : z_G} {K : z_K} (n : Nat) {v : Int32} {S' : z_Stt} (cx : z_C g M_X11_gone 68 K) (ce : z_E' g M_X11_gone (z_P g (some (.int v)) S') K) (a0 : Int32) (a1 : Int32) (S : z_Stt) (h : f_X11_gone n a0 a1 S = some (v, S')) : z_At g M_X11_gone K 0 [some (.ref (z_ad g 48)), some (.int a0), some (.int a1), none, none, none, none] [] (hp g S) := by
  unfold f_X11_gone at h
  refine z_aload_n cx rfl rfl dX11_gone_0 ?_
  refine z_iload_n cx rfl rfl dX11_gone_1 ?_
  obtain ⟨v1, S2, e3, h⟩ := g_bd_ex h
  refine q_cvi (As := [.int a0]) cx mo_X11_isDr mv_X11_isDr z_cl11 rfl tb_634 (by decide) rfl (by decide) rfl rfl (Nat.le_of_ble_eq_true rfl) dX11_gone_2 (c_X11_isDr a0 _ e3) ?_
  refine q_ifb_eq (tgt := 16) cx (by decide) dX11_gone_5 (fun c4 => ?_) (fun c4 => ?_)
  · have h := g_f (Bool.eq_false_iff.mp c4) h
    refine z_iconst (v := (-1)) cx (by decide +kernel) dX11_gone_16 ?_
    obtain ⟨rfl, rfl⟩ := g_some h
    exact z_ireturn cx ce rfl ⟨rfl, rfl⟩ dX11_gone_17
  · have h := g_t c4 h
    refine z_iload_n cx rfl rfl dX11_gone_8 ?_
    refine z_i2l cx dX11_gone_9 ?_
    obtain ⟨v5, S6, e7, h⟩ := g_bd_ex h
    refine q_csi (As := [.long (Int32.toInt64 a1)]) cx mo_X11_isYards ms_X11_isYards tb_544 (by decide) rfl rfl (Nat.le_of_ble_eq_true rfl) dX11_gone_10 (c_X11_isYards (Int32.toInt64 a1) _ e7) ?_
    refine q_ifb_ne (tgt := 18) cx (by decide) dX11_gone_13 (fun c8 => ?_) (fun c8 => ?_)
    · have h := g_t c8 h
      refine z_aload_n cx rfl rfl dX11_gone_18 ?_
      refine z_iload_n cx rfl rfl dX11_gone_19 ?_
      obtain ⟨v9, S10, e11, h⟩ := g_bd_ex h
      refine q_cvi (As := [.int a0]) cx mo_X11_asksAll mv_X11_asksAll z_cl11 rfl tb_641 (by decide) rfl (by decide) rfl rfl (Nat.le_of_ble_eq_true rfl) dX11_gone_20 (c_X11_asksAll a0 _ e11) ?_
      refine q_ifb_ne (tgt := 29) cx (by decide) dX11_gone_23 (fun c12 => ?_) (fun c12 => ?_)
      · have h := g_t c12 h
        refine z_iconst (v := (-1)) cx (by decide +kernel) dX11_gone_29 ?_
        refine z_istore_n (L' := [some (.ref (z_ad g 48)), some (.int a0), some (.int a1), some (.int (-1)), none, none, none]) cx rfl (by decide) rfl dX11_gone_30 ?_
        refine z_iconst (v := (-1)) cx (by decide +kernel) dX11_gone_31 ?_
        refine z_istore (L' := [some (.ref (z_ad g 48)), some (.int a0), some (.int a1), some (.int (-1)), some (.int (-1)), none, none]) cx (by decide) rfl dX11_gone_32 ?_
        refine z_iconst (v := 0) cx (by decide +kernel) dX11_gone_34 ?_
        refine z_istore (L' := [some (.ref (z_ad g 48)), some (.int a0), some (.int a1), some (.int (-1)), some (.int (-1)), some (.int 0), none]) cx (by decide) rfl dX11_gone_35 ?_
        exact q_weak (z_wk_s (z_wk_s (z_wk_s (z_wk_s (z_wk_s (z_wk_s (z_wk_n (z_wk_0)))))))) (t_X11_gone_37 n cx ce n a0 a1 (-1) (-1) 0 S10 h)
      · have h := g_f (Bool.eq_false_iff.mp c12) h
        refine z_bipush (v := (-2)) cx (by decide +kernel) dX11_gone_26 ?_
        obtain ⟨rfl, rfl⟩ := g_some h
        exact z_ireturn cx ce rfl ⟨rfl, rfl⟩ dX11_gone_28
    · have h := g_f (Bool.eq_false_iff.mp c8) h
      refine z_iconst (v := (-1)) cx (by decide +kernel) dX11_gone_16 ?_
      obtain ⟨rfl, rfl⟩ := g_some h
      exact z_ireturn cx ce rfl ⟨rfl, rfl⟩ dX11_gone_17
theorem c_X11_gone {g : z_G} {n : Nat} (a0 : Int32) (a1 : Int32) (S : z_Stt) {v : Int32} {S' : z_Stt} (h : f_X11_gone n a0 a1 S = some (v, S')) : z_Ct g M_X11_gone 68 [.ref (z_ad g 48), .int a0, .int a1] (hp g S) (z_P g (some (.int v)) S') :=
  z_Ct.of (by decide +kernel) rfl (Nat.le_of_ble_eq_true rfl) (fun K cx ce => q_weak (L' := [some (.ref (z_ad g 48)), some (.int a0), some (.int a1), none, none, none, none]) (z_wk_s (z_wk_s (z_wk_s (z_wk_e (z_wk_e (z_wk_e (z_wk_e (z_wk_0)))))))) (t_X11_gone n cx ce a0 a1 S h))
abbrev M_X11_ringCosts : z_M := (RX11, yX11_ringCosts, cX11_ringCosts, 14, some .long)
theorem mo_X11_ringCosts : z_mo M_X11_ringCosts 3 := ⟨tb_706, tb_5, rfl, ⟨by decide +kernel, by decide +kernel⟩, by decide +kernel, by decide⟩
theorem mv_X11_ringCosts : z_mv M_X11_ringCosts := ⟨tb_704, tb_705⟩
def f_X11_ringCosts_149 (n : Nat) (k94 : Int32 → Int32 → Int32 → Int64 → Int64 → Int64 → Int64 → Int32 → z_Stt → Option (Int64 × z_Stt)) (x1 : Int32) (x2 : Int32) (x3 : Int32) (x4 : Int64) (x6 : Int64) (x8 : Int64) (x12 : Int32) (y0 : Int64) (y1 : Int64) (S : z_Stt) : Option (Int64 × z_Stt) :=
  k94 x1 x2 x3 x4 x6 x8 (y1 + y0) (x12 + 1) S
set_option maxHeartbeats 4000000 in
set_option maxRecDepth 100000 in
theorem t_X11_ringCosts_149 {g : z_G} {K : z_K} (n : Nat) {v : Int64} {S' : z_Stt} (cx : z_C g M_X11_ringCosts 2 K) (ce : z_E' g M_X11_ringCosts (z_P g (some (.long v)) S') K) (k94 : Int32 → Int32 → Int32 → Int64 → Int64 → Int64 → Int64 → Int32 → z_Stt → Option (Int64 × z_Stt)) (hk94 : ∀ (x1 : Int32) (x2 : Int32) (x3 : Int32) (x4 : Int64) (x6 : Int64) (x8 : Int64) (x10 : Int64) (x12 : Int32) (S : z_Stt), k94 x1 x2 x3 x4 x6 x8 x10 x12 S = some (v, S') → z_At g M_X11_ringCosts K 94 [some (.ref (z_ad g 48)), some (.int x1), some (.int x2), some (.int x3), some (.long x4), none, some (.long x6), none, some (.long x8), none, some (.long x10), none, some (.int x12), none] [] (hp g S)) (x1 : Int32) (x2 : Int32) (x3 : Int32) (x4 : Int64) (x6 : Int64) (x8 : Int64) (x12 : Int32) (y0 : Int64) (y1 : Int64) (S : z_Stt) (h : f_X11_ringCosts_149 n k94 x1 x2 x3 x4 x6 x8 x12 y0 y1 S = some (v, S')) : z_At g M_X11_ringCosts K 149 [some (.ref (z_ad g 48)), some (.int x1), some (.int x2), some (.int x3), some (.long x4), none, some (.long x6), none, some (.long x8), none, none, none, some (.int x12), none] [.long y0, .long y1] (hp g S) := by
  unfold f_X11_ringCosts_149 at h
  refine z_ladd cx dX11_ringCosts_149 ?_
  refine z_lstore (L' := [some (.ref (z_ad g 48)), some (.int x1), some (.int x2), some (.int x3), some (.long x4), none, some (.long x6), none, some (.long x8), none, some (.long (y1 + y0)), none, some (.int x12), none]) cx (by decide) rfl dX11_ringCosts_150 ?_
  refine z_iinc (c := 1) (L' := [some (.ref (z_ad g 48)), some (.int x1), some (.int x2), some (.int x3), some (.long x4), none, some (.long x6), none, some (.long x8), none, some (.long (y1 + y0)), none, some (.int (x12 + 1)), none]) cx rfl (by decide +kernel) (by decide) rfl dX11_ringCosts_152 ?_
  refine z_goto (tgt := 94) cx (by decide) dX11_ringCosts_155 ?_
  exact q_weak (z_wk_s (z_wk_s (z_wk_s (z_wk_s (z_wk_s (z_wk_n (z_wk_s (z_wk_n (z_wk_s (z_wk_n (z_wk_s (z_wk_n (z_wk_s (z_wk_n (z_wk_0))))))))))))))) (hk94 x1 x2 x3 x4 x6 x8 (y1 + y0) (x12 + 1) S h)
def f_X11_ringCosts_94 (n : Nat) : Nat → Int32 → Int32 → Int32 → Int64 → Int64 → Int64 → Int64 → Int32 → z_Stt → Option (Int64 × z_Stt)
  | 0, _, _, _, _, _, _, _, _, _ => none
  | m + 1, x1, x2, x3, x4, x6, x8, x10, x12, S =>
    if S.1 4806 ≤ x12 then
      g_bd (f_X11_backCosts x3 S) fun v2 S3 =>
      if ¬ ((38 : Int32) < 0 ∨ 75 ≤ (38 : Int32).toNatClampNeg) then
        g_bd (f_X11_lesserOf x4 x6 S3) fun v6 S7 =>
        some ((((Int32.toInt64 (12 * (S3.2.2.1 49 (38 : Int32).toNatClampNeg))) * (S3.2.1 4825)) + ((Int32.toInt64 (12 - (S3.1 4810))) * (((Int32.toInt64 v2) * ((S3.2.1 4825) - x8)) + x10))) + ((Int32.toInt64 (S3.1 4810)) * v6), S7)
      else none
    else
      g_bd (f_X11_isIn (x1 &&& (x2 ^^^ (-1))) x12 S) fun v9 S10 =>
      if v9 = true then
        if ¬ (x12 < 0 ∨ 6 ≤ x12.toNatClampNeg) then
          if ¬ S10.2.2.2.1 59 x12.toNatClampNeg = 0 then
            if ¬ (x12 < 0 ∨ 6 ≤ x12.toNatClampNeg) then
              g_bd (f_X11_numberOf x12 3 S10) fun v16 S17 =>
              f_X11_ringCosts_149 n (f_X11_ringCosts_94 n m) x1 x2 x3 x4 x6 x8 x12 (((x8 / (S10.2.2.2.1 59 x12.toNatClampNeg)) * (S10.2.2.2.1 58 x12.toNatClampNeg)) * (Int32.toInt64 v16)) x10 S17
            else none
          else none
        else none
      else
        f_X11_ringCosts_149 n (f_X11_ringCosts_94 n m) x1 x2 x3 x4 x6 x8 x12 0 x10 S10
set_option maxHeartbeats 4000000 in
set_option maxRecDepth 100000 in
theorem t_X11_ringCosts_94 {g : z_G} {K : z_K} (n : Nat) {v : Int64} {S' : z_Stt} (cx : z_C g M_X11_ringCosts 2 K) (ce : z_E' g M_X11_ringCosts (z_P g (some (.long v)) S') K) : ∀ (m : Nat) (x1 : Int32) (x2 : Int32) (x3 : Int32) (x4 : Int64) (x6 : Int64) (x8 : Int64) (x10 : Int64) (x12 : Int32) (S : z_Stt) (h : f_X11_ringCosts_94 n m x1 x2 x3 x4 x6 x8 x10 x12 S = some (v, S')), z_At g M_X11_ringCosts K 94 [some (.ref (z_ad g 48)), some (.int x1), some (.int x2), some (.int x3), some (.long x4), none, some (.long x6), none, some (.long x8), none, some (.long x10), none, some (.int x12), none] [] (hp g S) := by
  intro m
  induction m with
  | zero => intro x1 x2 x3 x4 x6 x8 x10 x12 S h; simp [f_X11_ringCosts_94] at h
  | succ m ih =>
    intro x1 x2 x3 x4 x6 x8 x10 x12 S h
    rw [f_X11_ringCosts_94] at h
    refine z_iload cx rfl dX11_ringCosts_94 ?_
    refine z_aload_n cx rfl rfl dX11_ringCosts_96 ?_
    refine q_getI (k := 48) (n := 4806) cx z_cl11 (j := 6) (by decide) tb_184 rfl (by decide) rfl rfl rfl dX11_ringCosts_97 ?_
    refine z_icmp_ge (tgt := 158) cx (by decide) dX11_ringCosts_100 (fun c1 => ?_) (fun c1 => ?_)
    · have h := g_t c1 h
      refine z_aload_n cx rfl rfl dX11_ringCosts_158 ?_
      refine z_iload_n cx rfl rfl dX11_ringCosts_159 ?_
      obtain ⟨v2, S3, e4, h⟩ := g_bd_ex h
      refine q_cvi (As := [.int x3]) cx mo_X11_backCosts mv_X11_backCosts z_cl11 rfl tb_552 (by decide) rfl (by decide) rfl rfl (Nat.le_of_ble_eq_true rfl) dX11_ringCosts_160 (c_X11_backCosts x3 _ e4) ?_
      refine z_i2l cx dX11_ringCosts_163 ?_
      refine z_aload_n cx rfl rfl dX11_ringCosts_164 ?_
      refine q_getJ (k := 48) (n := 4825) cx z_cl11 (j := 25) (by decide) tb_633 rfl (by decide) rfl rfl rfl dX11_ringCosts_165 ?_
      refine z_lload cx rfl dX11_ringCosts_168 ?_
      refine z_lsub cx dX11_ringCosts_170 ?_
      refine z_lmul cx dX11_ringCosts_171 ?_
      refine z_lload cx rfl dX11_ringCosts_172 ?_
      refine z_ladd cx dX11_ringCosts_174 ?_
      refine z_lstore (L' := [some (.ref (z_ad g 48)), some (.int x1), some (.int x2), some (.int x3), some (.long x4), none, some (.long x6), none, some (.long x8), none, some (.long x10), none, some (.long (((Int32.toInt64 v2) * ((S3.2.1 4825) - x8)) + x10)), none]) cx (by decide) rfl dX11_ringCosts_175 ?_
      refine z_bipush (v := 12) cx (by decide +kernel) dX11_ringCosts_177 ?_
      refine z_aload_n cx rfl rfl dX11_ringCosts_179 ?_
      refine q_getF (k := 48) (n := 49) (r := 1) cx z_cl11 (j := 0) (by decide) tb_141 rfl (by decide) rfl rfl rfl dX11_ringCosts_180 ?_
      refine z_bipush (v := 38) cx (by decide +kernel) dX11_ringCosts_183 ?_
      obtain ⟨c5, h⟩ := g_if h
      refine q_iald cx (by decide) rfl c5 dX11_ringCosts_185 ?_
      refine z_imul cx dX11_ringCosts_186 ?_
      refine z_i2l cx dX11_ringCosts_187 ?_
      refine z_aload_n cx rfl rfl dX11_ringCosts_188 ?_
      refine q_getJ (k := 48) (n := 4825) cx z_cl11 (j := 25) (by decide) tb_633 rfl (by decide) rfl rfl rfl dX11_ringCosts_189 ?_
      refine z_lmul cx dX11_ringCosts_192 ?_
      refine z_bipush (v := 12) cx (by decide +kernel) dX11_ringCosts_193 ?_
      refine z_aload_n cx rfl rfl dX11_ringCosts_195 ?_
      refine q_getI (k := 48) (n := 4810) cx z_cl11 (j := 10) (by decide) tb_312 rfl (by decide) rfl rfl rfl dX11_ringCosts_196 ?_
      refine z_isub cx dX11_ringCosts_199 ?_
      refine z_i2l cx dX11_ringCosts_200 ?_
      refine z_lload cx rfl dX11_ringCosts_201 ?_
      refine z_lmul cx dX11_ringCosts_203 ?_
      refine z_ladd cx dX11_ringCosts_204 ?_
      refine z_aload_n cx rfl rfl dX11_ringCosts_205 ?_
      refine q_getI (k := 48) (n := 4810) cx z_cl11 (j := 10) (by decide) tb_312 rfl (by decide) rfl rfl rfl dX11_ringCosts_206 ?_
      refine z_i2l cx dX11_ringCosts_209 ?_
      refine z_lload cx rfl dX11_ringCosts_210 ?_
      refine z_lload cx rfl dX11_ringCosts_212 ?_
      obtain ⟨v6, S7, e8, h⟩ := g_bd_ex h
      refine q_csl (As := [.long x4, .long x6]) cx mo_X11_lesserOf ms_X11_lesserOf tb_652 (by decide) rfl rfl (Nat.le_of_ble_eq_true rfl) dX11_ringCosts_214 (c_X11_lesserOf x4 x6 _ e8) ?_
      refine z_lmul cx dX11_ringCosts_217 ?_
      refine z_ladd cx dX11_ringCosts_218 ?_
      obtain ⟨rfl, rfl⟩ := g_some h
      exact z_lreturn cx ce rfl ⟨rfl, rfl⟩ dX11_ringCosts_219
    · have h := g_f c1 h
      refine z_lload cx rfl dX11_ringCosts_103 ?_
      refine z_iload_n cx rfl rfl dX11_ringCosts_105 ?_
      refine z_iload_n cx rfl rfl dX11_ringCosts_106 ?_
      refine z_iconst (v := (-1)) cx (by decide +kernel) dX11_ringCosts_107 ?_
      refine z_ixor cx dX11_ringCosts_108 ?_
      refine z_iand cx dX11_ringCosts_109 ?_
      refine z_iload cx rfl dX11_ringCosts_110 ?_
      obtain ⟨v9, S10, e11, h⟩ := g_bd_ex h
      refine q_csi (As := [.int (x1 &&& (x2 ^^^ (-1))), .int x12]) cx mo_X11_isIn ms_X11_isIn tb_645 (by decide) rfl rfl (Nat.le_of_ble_eq_true rfl) dX11_ringCosts_112 (c_X11_isIn (x1 &&& (x2 ^^^ (-1))) x12 _ e11) ?_
      refine q_ifb_eq (tgt := 148) cx (by decide) dX11_ringCosts_115 (fun c12 => ?_) (fun c12 => ?_)
      · have h := g_f (Bool.eq_false_iff.mp c12) h
        refine z_lconst (v := 0) cx (by decide +kernel) dX11_ringCosts_148 ?_
        exact q_weak (z_wk_s (z_wk_s (z_wk_s (z_wk_s (z_wk_s (z_wk_n (z_wk_s (z_wk_n (z_wk_s (z_wk_n (z_wk_n (z_wk_n (z_wk_s (z_wk_n (z_wk_0))))))))))))))) (t_X11_ringCosts_149 n cx ce (f_X11_ringCosts_94 n m) ih x1 x2 x3 x4 x6 x8 x12 0 x10 S10 h)
      · have h := g_t c12 h
        refine z_lload cx rfl dX11_ringCosts_118 ?_
        refine z_aload_n cx rfl rfl dX11_ringCosts_120 ?_
        refine q_getF (k := 48) (n := 59) (r := 11) cx z_cl11 (j := 24) (by decide) tb_152 rfl (by decide) rfl rfl rfl dX11_ringCosts_121 ?_
        refine z_iload cx rfl dX11_ringCosts_124 ?_
        obtain ⟨c13, h⟩ := g_if h
        refine q_lald cx (by decide) rfl c13 dX11_ringCosts_126 ?_
        obtain ⟨c14, h⟩ := g_if h
        refine z_ldiv cx c14 dX11_ringCosts_127 ?_
        refine z_aload_n cx rfl rfl dX11_ringCosts_128 ?_
        refine q_getF (k := 48) (n := 58) (r := 10) cx z_cl11 (j := 23) (by decide) tb_151 rfl (by decide) rfl rfl rfl dX11_ringCosts_129 ?_
        refine z_iload cx rfl dX11_ringCosts_132 ?_
        obtain ⟨c15, h⟩ := g_if h
        refine q_lald cx (by decide) rfl c15 dX11_ringCosts_134 ?_
        refine z_lmul cx dX11_ringCosts_135 ?_
        refine z_aload_n cx rfl rfl dX11_ringCosts_136 ?_
        refine z_iload cx rfl dX11_ringCosts_137 ?_
        refine z_iconst (v := 3) cx (by decide +kernel) dX11_ringCosts_139 ?_
        obtain ⟨v16, S17, e18, h⟩ := g_bd_ex h
        refine q_cvi (As := [.int x12, .int 3]) cx mo_X11_numberOf mv_X11_numberOf z_cl11 rfl tb_496 (by decide) rfl (by decide) rfl rfl (Nat.le_of_ble_eq_true rfl) dX11_ringCosts_140 (c_X11_numberOf x12 3 _ e18) ?_
        refine z_i2l cx dX11_ringCosts_143 ?_
        refine z_lmul cx dX11_ringCosts_144 ?_
        refine z_goto (tgt := 149) cx (by decide) dX11_ringCosts_145 ?_
        exact q_weak (z_wk_s (z_wk_s (z_wk_s (z_wk_s (z_wk_s (z_wk_n (z_wk_s (z_wk_n (z_wk_s (z_wk_n (z_wk_n (z_wk_n (z_wk_s (z_wk_n (z_wk_0))))))))))))))) (t_X11_ringCosts_149 n cx ce (f_X11_ringCosts_94 n m) ih x1 x2 x3 x4 x6 x8 x12 (((x8 / (S10.2.2.2.1 59 x12.toNatClampNeg)) * (S10.2.2.2.1 58 x12.toNatClampNeg)) * (Int32.toInt64 v16)) x10 S17 h)
def f_X11_ringCosts_80 (n : Nat) (k29 : Int32 → Int32 → Int32 → Int64 → Int64 → Int64 → Int32 → z_Stt → Option (Int64 × z_Stt)) (x1 : Int32) (x2 : Int32) (x3 : Int32) (x4 : Int64) (x6 : Int64) (x10 : Int32) (y0 : Int64) (S : z_Stt) : Option (Int64 × z_Stt) :=
  k29 x1 x2 x3 x4 x6 y0 (x10 + 1) S
set_option maxHeartbeats 4000000 in
set_option maxRecDepth 100000 in
theorem t_X11_ringCosts_80 {g : z_G} {K : z_K} (n : Nat) {v : Int64} {S' : z_Stt} (cx : z_C g M_X11_ringCosts 2 K) (ce : z_E' g M_X11_ringCosts (z_P g (some (.long v)) S') K) (k29 : Int32 → Int32 → Int32 → Int64 → Int64 → Int64 → Int32 → z_Stt → Option (Int64 × z_Stt)) (hk29 : ∀ (x1 : Int32) (x2 : Int32) (x3 : Int32) (x4 : Int64) (x6 : Int64) (x8 : Int64) (x10 : Int32) (S : z_Stt), k29 x1 x2 x3 x4 x6 x8 x10 S = some (v, S') → z_At g M_X11_ringCosts K 29 [some (.ref (z_ad g 48)), some (.int x1), some (.int x2), some (.int x3), some (.long x4), none, some (.long x6), none, some (.long x8), none, some (.int x10), none, none, none] [] (hp g S)) (x1 : Int32) (x2 : Int32) (x3 : Int32) (x4 : Int64) (x6 : Int64) (x10 : Int32) (y0 : Int64) (S : z_Stt) (h : f_X11_ringCosts_80 n k29 x1 x2 x3 x4 x6 x10 y0 S = some (v, S')) : z_At g M_X11_ringCosts K 80 [some (.ref (z_ad g 48)), some (.int x1), some (.int x2), some (.int x3), some (.long x4), none, some (.long x6), none, none, none, some (.int x10), none, none, none] [.long y0] (hp g S) := by
  unfold f_X11_ringCosts_80 at h
  refine z_lstore (L' := [some (.ref (z_ad g 48)), some (.int x1), some (.int x2), some (.int x3), some (.long x4), none, some (.long x6), none, some (.long y0), none, some (.int x10), none, none, none]) cx (by decide) rfl dX11_ringCosts_80 ?_
  refine z_iinc (c := 1) (L' := [some (.ref (z_ad g 48)), some (.int x1), some (.int x2), some (.int x3), some (.long x4), none, some (.long x6), none, some (.long y0), none, some (.int (x10 + 1)), none, none, none]) cx rfl (by decide +kernel) (by decide) rfl dX11_ringCosts_82 ?_
  refine z_goto (tgt := 29) cx (by decide) dX11_ringCosts_85 ?_
  exact q_weak (z_wk_s (z_wk_s (z_wk_s (z_wk_s (z_wk_s (z_wk_n (z_wk_s (z_wk_n (z_wk_s (z_wk_n (z_wk_s (z_wk_n (z_wk_n (z_wk_n (z_wk_0))))))))))))))) (hk29 x1 x2 x3 x4 x6 y0 (x10 + 1) S h)
def f_X11_ringCosts_29 (n : Nat) : Nat → Int32 → Int32 → Int32 → Int64 → Int64 → Int64 → Int32 → z_Stt → Option (Int64 × z_Stt)
  | 0, _, _, _, _, _, _, _, _ => none
  | m + 1, x1, x2, x3, x4, x6, x8, x10, S =>
    if S.1 4806 ≤ x10 then
      f_X11_ringCosts_94 n n x1 x2 x3 x4 x6 x8 0 0 S
    else
      g_bd (f_X11_isIn (x1 &&& x2) x10 S) fun v2 S3 =>
      if v2 = true then
        if ¬ (x10 < 0 ∨ 6 ≤ x10.toNatClampNeg) then
          if ¬ S3.2.2.2.1 59 x10.toNatClampNeg = 0 then
            if ¬ (x10 < 0 ∨ 6 ≤ x10.toNatClampNeg) then
              if ¬ (x10 < 0 ∨ 6 ≤ x10.toNatClampNeg) then
                f_X11_ringCosts_80 n (f_X11_ringCosts_29 n m) x1 x2 x3 x4 x6 x10 ((x8 / (S3.2.2.2.1 59 x10.toNatClampNeg)) * ((S3.2.2.2.1 59 x10.toNatClampNeg) - (S3.2.2.2.1 58 x10.toNatClampNeg))) S3
              else none
            else none
          else none
        else none
      else
        f_X11_ringCosts_80 n (f_X11_ringCosts_29 n m) x1 x2 x3 x4 x6 x10 x8 S3
set_option maxHeartbeats 4000000 in
set_option maxRecDepth 100000 in
theorem t_X11_ringCosts_29 {g : z_G} {K : z_K} (n : Nat) {v : Int64} {S' : z_Stt} (cx : z_C g M_X11_ringCosts 2 K) (ce : z_E' g M_X11_ringCosts (z_P g (some (.long v)) S') K) : ∀ (m : Nat) (x1 : Int32) (x2 : Int32) (x3 : Int32) (x4 : Int64) (x6 : Int64) (x8 : Int64) (x10 : Int32) (S : z_Stt) (h : f_X11_ringCosts_29 n m x1 x2 x3 x4 x6 x8 x10 S = some (v, S')), z_At g M_X11_ringCosts K 29 [some (.ref (z_ad g 48)), some (.int x1), some (.int x2), some (.int x3), some (.long x4), none, some (.long x6), none, some (.long x8), none, some (.int x10), none, none, none] [] (hp g S) := by
  intro m
  induction m with
  | zero => intro x1 x2 x3 x4 x6 x8 x10 S h; simp [f_X11_ringCosts_29] at h
  | succ m ih =>
    intro x1 x2 x3 x4 x6 x8 x10 S h
    rw [f_X11_ringCosts_29] at h
    refine z_iload cx rfl dX11_ringCosts_29 ?_
    refine z_aload_n cx rfl rfl dX11_ringCosts_31 ?_
    refine q_getI (k := 48) (n := 4806) cx z_cl11 (j := 6) (by decide) tb_184 rfl (by decide) rfl rfl rfl dX11_ringCosts_32 ?_
    refine z_icmp_ge (tgt := 88) cx (by decide) dX11_ringCosts_35 (fun c1 => ?_) (fun c1 => ?_)
    · have h := g_t c1 h
      refine z_lconst (v := 0) cx (by decide +kernel) dX11_ringCosts_88 ?_
      refine z_lstore (L' := [some (.ref (z_ad g 48)), some (.int x1), some (.int x2), some (.int x3), some (.long x4), none, some (.long x6), none, some (.long x8), none, some (.long 0), none, none, none]) cx (by decide) rfl dX11_ringCosts_89 ?_
      refine z_iconst (v := 0) cx (by decide +kernel) dX11_ringCosts_91 ?_
      refine z_istore (L' := [some (.ref (z_ad g 48)), some (.int x1), some (.int x2), some (.int x3), some (.long x4), none, some (.long x6), none, some (.long x8), none, some (.long 0), none, some (.int 0), none]) cx (by decide) rfl dX11_ringCosts_92 ?_
      exact q_weak (z_wk_s (z_wk_s (z_wk_s (z_wk_s (z_wk_s (z_wk_n (z_wk_s (z_wk_n (z_wk_s (z_wk_n (z_wk_s (z_wk_n (z_wk_s (z_wk_n (z_wk_0))))))))))))))) (t_X11_ringCosts_94 n cx ce n x1 x2 x3 x4 x6 x8 0 0 S h)
    · have h := g_f c1 h
      refine z_iload_n cx rfl rfl dX11_ringCosts_38 ?_
      refine z_iload_n cx rfl rfl dX11_ringCosts_39 ?_
      refine z_iand cx dX11_ringCosts_40 ?_
      refine z_iload cx rfl dX11_ringCosts_41 ?_
      obtain ⟨v2, S3, e4, h⟩ := g_bd_ex h
      refine q_csi (As := [.int (x1 &&& x2), .int x10]) cx mo_X11_isIn ms_X11_isIn tb_645 (by decide) rfl rfl (Nat.le_of_ble_eq_true rfl) dX11_ringCosts_43 (c_X11_isIn (x1 &&& x2) x10 _ e4) ?_
      refine q_ifb_eq (tgt := 78) cx (by decide) dX11_ringCosts_46 (fun c5 => ?_) (fun c5 => ?_)
      · have h := g_f (Bool.eq_false_iff.mp c5) h
        refine z_lload cx rfl dX11_ringCosts_78 ?_
        exact q_weak (z_wk_s (z_wk_s (z_wk_s (z_wk_s (z_wk_s (z_wk_n (z_wk_s (z_wk_n (z_wk_n (z_wk_n (z_wk_s (z_wk_n (z_wk_n (z_wk_n (z_wk_0))))))))))))))) (t_X11_ringCosts_80 n cx ce (f_X11_ringCosts_29 n m) ih x1 x2 x3 x4 x6 x10 x8 S3 h)
      · have h := g_t c5 h
        refine z_lload cx rfl dX11_ringCosts_49 ?_
        refine z_aload_n cx rfl rfl dX11_ringCosts_51 ?_
        refine q_getF (k := 48) (n := 59) (r := 11) cx z_cl11 (j := 24) (by decide) tb_152 rfl (by decide) rfl rfl rfl dX11_ringCosts_52 ?_
        refine z_iload cx rfl dX11_ringCosts_55 ?_
        obtain ⟨c6, h⟩ := g_if h
        refine q_lald cx (by decide) rfl c6 dX11_ringCosts_57 ?_
        obtain ⟨c7, h⟩ := g_if h
        refine z_ldiv cx c7 dX11_ringCosts_58 ?_
        refine z_aload_n cx rfl rfl dX11_ringCosts_59 ?_
        refine q_getF (k := 48) (n := 59) (r := 11) cx z_cl11 (j := 24) (by decide) tb_152 rfl (by decide) rfl rfl rfl dX11_ringCosts_60 ?_
        refine z_iload cx rfl dX11_ringCosts_63 ?_
        obtain ⟨c8, h⟩ := g_if h
        refine q_lald cx (by decide) rfl c8 dX11_ringCosts_65 ?_
        refine z_aload_n cx rfl rfl dX11_ringCosts_66 ?_
        refine q_getF (k := 48) (n := 58) (r := 10) cx z_cl11 (j := 23) (by decide) tb_151 rfl (by decide) rfl rfl rfl dX11_ringCosts_67 ?_
        refine z_iload cx rfl dX11_ringCosts_70 ?_
        obtain ⟨c9, h⟩ := g_if h
        refine q_lald cx (by decide) rfl c9 dX11_ringCosts_72 ?_
        refine z_lsub cx dX11_ringCosts_73 ?_
        refine z_lmul cx dX11_ringCosts_74 ?_
        refine z_goto (tgt := 80) cx (by decide) dX11_ringCosts_75 ?_
        exact q_weak (z_wk_s (z_wk_s (z_wk_s (z_wk_s (z_wk_s (z_wk_n (z_wk_s (z_wk_n (z_wk_n (z_wk_n (z_wk_s (z_wk_n (z_wk_n (z_wk_n (z_wk_0))))))))))))))) (t_X11_ringCosts_80 n cx ce (f_X11_ringCosts_29 n m) ih x1 x2 x3 x4 x6 x10 ((x8 / (S3.2.2.2.1 59 x10.toNatClampNeg)) * ((S3.2.2.2.1 59 x10.toNatClampNeg) - (S3.2.2.2.1 58 x10.toNatClampNeg))) S3 h)
def f_X11_ringCosts (n : Nat) (a0 : Int32) (a1 : Int32) (a2 : Int32) (S : z_Stt) : Option (Int64 × z_Stt) :=
  g_bd (f_X11_backCosts a2 S) fun v1 S2 =>
  g_bd (f_X11_staysFor n a0 S2) fun v4 S5 =>
  f_X11_ringCosts_29 n n a0 a1 a2 ((Int32.toInt64 v1) * (S2.2.1 4825)) v4 (S5.2.1 4825) 0 S5
set_option maxHeartbeats 4000000 in
set_option maxRecDepth 100000 in
theorem t_X11_ringCosts {g : z_G} {K : z_K} (n : Nat) {v : Int64} {S' : z_Stt} (cx : z_C g M_X11_ringCosts 2 K) (ce : z_E' g M_X11_ringCosts (z_P g (some (.long v)) S') K) (a0 : Int32) (a1 : Int32) (a2 : Int32) (S : z_Stt) (h : f_X11_ringCosts n a0 a1 a2 S = some (v, S')) : z_At g M_X11_ringCosts K 0 [some (.ref (z_ad g 48)), some (.int a0), some (.int a1), some (.int a2), none, none, none, none, none, none, none, none, none, none] [] (hp g S) := by
  unfold f_X11_ringCosts at h
  refine z_aload_n cx rfl rfl dX11_ringCosts_0 ?_
  refine z_iload_n cx rfl rfl dX11_ringCosts_1 ?_
  obtain ⟨v1, S2, e3, h⟩ := g_bd_ex h
  refine q_cvi (As := [.int a2]) cx mo_X11_backCosts mv_X11_backCosts z_cl11 rfl tb_552 (by decide) rfl (by decide) rfl rfl (Nat.le_of_ble_eq_true rfl) dX11_ringCosts_2 (c_X11_backCosts a2 _ e3) ?_
  refine z_i2l cx dX11_ringCosts_5 ?_
  refine z_aload_n cx rfl rfl dX11_ringCosts_6 ?_
  refine q_getJ (k := 48) (n := 4825) cx z_cl11 (j := 25) (by decide) tb_633 rfl (by decide) rfl rfl rfl dX11_ringCosts_7 ?_
  refine z_lmul cx dX11_ringCosts_10 ?_
  refine z_lstore (L' := [some (.ref (z_ad g 48)), some (.int a0), some (.int a1), some (.int a2), some (.long ((Int32.toInt64 v1) * (S2.2.1 4825))), none, none, none, none, none, none, none, none, none]) cx (by decide) rfl dX11_ringCosts_11 ?_
  refine z_aload_n cx rfl rfl dX11_ringCosts_13 ?_
  refine z_iload_n cx rfl rfl dX11_ringCosts_14 ?_
  obtain ⟨v4, S5, e6, h⟩ := g_bd_ex h
  refine q_cvl (As := [.int a0]) cx mo_X11_staysFor mv_X11_staysFor z_cl11 rfl tb_648 (by decide) rfl (by decide) rfl rfl (Nat.le_of_ble_eq_true rfl) dX11_ringCosts_15 (c_X11_staysFor a0 _ e6) ?_
  refine z_lstore (L' := [some (.ref (z_ad g 48)), some (.int a0), some (.int a1), some (.int a2), some (.long ((Int32.toInt64 v1) * (S2.2.1 4825))), none, some (.long v4), none, none, none, none, none, none, none]) cx (by decide) rfl dX11_ringCosts_18 ?_
  refine z_aload_n cx rfl rfl dX11_ringCosts_20 ?_
  refine q_getJ (k := 48) (n := 4825) cx z_cl11 (j := 25) (by decide) tb_633 rfl (by decide) rfl rfl rfl dX11_ringCosts_21 ?_
  refine z_lstore (L' := [some (.ref (z_ad g 48)), some (.int a0), some (.int a1), some (.int a2), some (.long ((Int32.toInt64 v1) * (S2.2.1 4825))), none, some (.long v4), none, some (.long (S5.2.1 4825)), none, none, none, none, none]) cx (by decide) rfl dX11_ringCosts_24 ?_
  refine z_iconst (v := 0) cx (by decide +kernel) dX11_ringCosts_26 ?_
  refine z_istore (L' := [some (.ref (z_ad g 48)), some (.int a0), some (.int a1), some (.int a2), some (.long ((Int32.toInt64 v1) * (S2.2.1 4825))), none, some (.long v4), none, some (.long (S5.2.1 4825)), none, some (.int 0), none, none, none]) cx (by decide) rfl dX11_ringCosts_27 ?_
  exact q_weak (z_wk_s (z_wk_s (z_wk_s (z_wk_s (z_wk_s (z_wk_n (z_wk_s (z_wk_n (z_wk_s (z_wk_n (z_wk_s (z_wk_n (z_wk_n (z_wk_n (z_wk_0))))))))))))))) (t_X11_ringCosts_29 n cx ce n a0 a1 a2 ((Int32.toInt64 v1) * (S2.2.1 4825)) v4 (S5.2.1 4825) 0 S5 h)
theorem c_X11_ringCosts {g : z_G} {n : Nat} (a0 : Int32) (a1 : Int32) (a2 : Int32) (S : z_Stt) {v : Int64} {S' : z_Stt} (h : f_X11_ringCosts n a0 a1 a2 S = some (v, S')) : z_Ct g M_X11_ringCosts 2 [.ref (z_ad g 48), .int a0, .int a1, .int a2] (hp g S) (z_P g (some (.long v)) S') :=
  z_Ct.of (by decide +kernel) rfl (Nat.le_of_ble_eq_true rfl) (fun K cx ce => q_weak (L' := [some (.ref (z_ad g 48)), some (.int a0), some (.int a1), some (.int a2), none, none, none, none, none, none, none, none, none, none]) (z_wk_s (z_wk_s (z_wk_s (z_wk_s (z_wk_e (z_wk_e (z_wk_e (z_wk_e (z_wk_e (z_wk_e (z_wk_e (z_wk_e (z_wk_e (z_wk_e (z_wk_0))))))))))))))) (t_X11_ringCosts n cx ce a0 a1 a2 S h))
abbrev M_X11_plan : z_M := (RX11, yX11_plan, cX11_plan, 14, some .long)
theorem mo_X11_plan : z_mo M_X11_plan 3 := ⟨tb_702, tb_5, rfl, ⟨by decide +kernel, by decide +kernel⟩, by decide +kernel, by decide⟩
theorem mv_X11_plan : z_mv M_X11_plan := ⟨tb_700, tb_701⟩
def f_X11_plan_155 (n : Nat) (x3 : Int32) (x9 : Int64) (x12 : Int64) (y0 : Int32) (S : z_Stt) : Option (Int64 × z_Stt) :=
  g_bd (f_X11_lesserOf x9 x12 S) fun v1 S2 =>
  if x3 = 2 then
    some (Int32.toInt64 y0, S2)
  else
    g_bd (f_X11_partOf n v1 (12 * (S2.2.1 4825)) x3 S2) fun v5 S6 =>
    some (v5, S6)
set_option maxHeartbeats 4000000 in
set_option maxRecDepth 100000 in
theorem t_X11_plan_155 {g : z_G} {K : z_K} (n : Nat) {v : Int64} {S' : z_Stt} (cx : z_C g M_X11_plan 4 K) (ce : z_E' g M_X11_plan (z_P g (some (.long v)) S') K) (x3 : Int32) (x9 : Int64) (x12 : Int64) (y0 : Int32) (S : z_Stt) (h : f_X11_plan_155 n x3 x9 x12 y0 S = some (v, S')) : z_At g M_X11_plan K 155 [some (.ref (z_ad g 48)), none, none, some (.int x3), none, none, none, none, none, some (.long x9), none, none, some (.long x12), none] [.int y0] (hp g S) := by
  unfold f_X11_plan_155 at h
  refine z_istore (L' := [some (.ref (z_ad g 48)), none, none, some (.int x3), none, none, none, none, none, some (.long x9), none, some (.int y0), some (.long x12), none]) cx (by decide) rfl dX11_plan_155 ?_
  refine z_lload cx rfl dX11_plan_157 ?_
  refine z_lload cx rfl dX11_plan_159 ?_
  obtain ⟨v1, S2, e3, h⟩ := g_bd_ex h
  refine q_csl (As := [.long x9, .long x12]) cx mo_X11_lesserOf ms_X11_lesserOf tb_652 (by decide) rfl rfl (Nat.le_of_ble_eq_true rfl) dX11_plan_161 (c_X11_lesserOf x9 x12 _ e3) ?_
  refine z_lstore (L' := [some (.ref (z_ad g 48)), none, none, some (.int x3), none, none, none, none, none, some (.long x9), none, some (.int y0), some (.long v1), none]) cx (by decide) rfl dX11_plan_164 ?_
  refine z_iload_n cx rfl rfl dX11_plan_166 ?_
  refine z_iconst (v := 2) cx (by decide +kernel) dX11_plan_167 ?_
  refine z_icmp_ne (tgt := 177) cx (by decide) dX11_plan_168 (fun c4 => ?_) (fun c4 => ?_)
  · have h := g_f c4 h
    refine z_lload cx rfl dX11_plan_177 ?_
    refine z_ldc2 cx tb_221 dX11_plan_179 ?_
    refine z_aload_n cx rfl rfl dX11_plan_182 ?_
    refine q_getJ (k := 48) (n := 4825) cx z_cl11 (j := 25) (by decide) tb_633 rfl (by decide) rfl rfl rfl dX11_plan_183 ?_
    refine z_lmul cx dX11_plan_186 ?_
    refine z_iload_n cx rfl rfl dX11_plan_187 ?_
    obtain ⟨v5, S6, e7, h⟩ := g_bd_ex h
    refine q_csl (As := [.long v1, .long (12 * (S2.2.1 4825)), .int x3]) cx mo_X11_partOf ms_X11_partOf tb_508 (by decide) rfl rfl (Nat.le_of_ble_eq_true rfl) dX11_plan_188 (c_X11_partOf v1 (12 * (S2.2.1 4825)) x3 _ e7) ?_
    obtain ⟨rfl, rfl⟩ := g_some h
    exact z_lreturn cx ce rfl ⟨rfl, rfl⟩ dX11_plan_191
  · have h := g_t c4 h
    refine z_iload cx rfl dX11_plan_171 ?_
    refine z_i2l cx dX11_plan_173 ?_
    refine z_goto (tgt := 191) cx (by decide) dX11_plan_174 ?_
    obtain ⟨rfl, rfl⟩ := g_some h
    exact z_lreturn cx ce rfl ⟨rfl, rfl⟩ dX11_plan_191
def f_X11_plan_130 (n : Nat) (x3 : Int32) (x5 : Int64) (x7 : Int64) (x9 : Int64) (y0 : Int32) (S : z_Stt) : Option (Int64 × z_Stt) :=
  g_bd (f_X11_lesserOf x5 x7 S) fun v1 S2 =>
  if 0 ≤ lg_cmp x9 v1 then
    f_X11_plan_155 n x3 x9 v1 y0 S2
  else
    f_X11_plan_155 n x3 x9 v1 2 S2
set_option maxHeartbeats 4000000 in
set_option maxRecDepth 100000 in
theorem t_X11_plan_130 {g : z_G} {K : z_K} (n : Nat) {v : Int64} {S' : z_Stt} (cx : z_C g M_X11_plan 4 K) (ce : z_E' g M_X11_plan (z_P g (some (.long v)) S') K) (x3 : Int32) (x5 : Int64) (x7 : Int64) (x9 : Int64) (y0 : Int32) (S : z_Stt) (h : f_X11_plan_130 n x3 x5 x7 x9 y0 S = some (v, S')) : z_At g M_X11_plan K 130 [some (.ref (z_ad g 48)), none, none, some (.int x3), none, some (.long x5), none, some (.long x7), none, some (.long x9), none, none, none, none] [.int y0] (hp g S) := by
  unfold f_X11_plan_130 at h
  refine z_istore (L' := [some (.ref (z_ad g 48)), none, none, some (.int x3), none, some (.long x5), none, some (.long x7), none, some (.long x9), none, some (.int y0), none, none]) cx (by decide) rfl dX11_plan_130 ?_
  refine z_lload cx rfl dX11_plan_132 ?_
  refine z_lload cx rfl dX11_plan_134 ?_
  obtain ⟨v1, S2, e3, h⟩ := g_bd_ex h
  refine q_csl (As := [.long x5, .long x7]) cx mo_X11_lesserOf ms_X11_lesserOf tb_652 (by decide) rfl rfl (Nat.le_of_ble_eq_true rfl) dX11_plan_136 (c_X11_lesserOf x5 x7 _ e3) ?_
  refine z_lstore (L' := [some (.ref (z_ad g 48)), none, none, some (.int x3), none, some (.long x5), none, some (.long x7), none, some (.long x9), none, some (.int y0), some (.long v1), none]) cx (by decide) rfl dX11_plan_139 ?_
  refine z_lload cx rfl dX11_plan_141 ?_
  refine z_lload cx rfl dX11_plan_143 ?_
  refine z_lcmp cx dX11_plan_145 ?_
  refine z_if_ge (tgt := 153) cx (by decide) dX11_plan_146 (fun c4 => ?_) (fun c4 => ?_)
  · have h := g_t c4 h
    refine z_iload cx rfl dX11_plan_153 ?_
    exact q_weak (z_wk_s (z_wk_n (z_wk_n (z_wk_s (z_wk_n (z_wk_n (z_wk_n (z_wk_n (z_wk_n (z_wk_s (z_wk_n (z_wk_n (z_wk_s (z_wk_n (z_wk_0))))))))))))))) (t_X11_plan_155 n cx ce x3 x9 v1 y0 S2 h)
  · have h := g_f c4 h
    refine z_iconst (v := 2) cx (by decide +kernel) dX11_plan_149 ?_
    refine z_goto (tgt := 155) cx (by decide) dX11_plan_150 ?_
    exact q_weak (z_wk_s (z_wk_n (z_wk_n (z_wk_s (z_wk_n (z_wk_n (z_wk_n (z_wk_n (z_wk_n (z_wk_s (z_wk_n (z_wk_n (z_wk_s (z_wk_n (z_wk_0))))))))))))))) (t_X11_plan_155 n cx ce x3 x9 v1 2 S2 h)
def f_X11_plan (n : Nat) (a0 : Int32) (a1 : Int32) (a2 : Int32) (S : z_Stt) : Option (Int64 × z_Stt) :=
  g_bd (f_X11_isDr n a0 S) fun v1 S2 =>
  if v1 = true then
    if a1 < 0 then
      some ((-9223372036854775808), S2)
    else
      g_bd (f_X11_isYards (Int32.toInt64 (a1 / 64)) S2) fun v6 S7 =>
      if v6 = true then
        if 1 <<< ((S7.1 4806) &&& 31) ≤ a1 % 64 then
          some ((-9223372036854775808), S7)
        else
          g_bd (f_X11_within (Int32.toInt64 a2) 0 2 S7) fun v11 S12 =>
          if v11 = true then
            g_bd (f_X11_asksAll n a0 S12) fun v15 S16 =>
            if v15 = true then
              g_bd (f_X11_staysFor n (a0 % 64) S16) fun v19 S20 =>
              g_bd (f_X11_backCosts (a1 / 64) S20) fun v22 S23 =>
              g_bd (f_X11_ringCosts n (a0 % 64) (a1 % 64) (a1 / 64) S23) fun v25 S26 =>
              if 0 ≤ lg_cmp ((Int32.toInt64 (12 * v22)) * (S23.2.1 4825)) (12 * v19) then
                f_X11_plan_130 n a2 (12 * v19) ((Int32.toInt64 (12 * v22)) * (S23.2.1 4825)) v25 0 S26
              else
                f_X11_plan_130 n a2 (12 * v19) ((Int32.toInt64 (12 * v22)) * (S23.2.1 4825)) v25 1 S26
            else
              some ((-2), S16)
          else
            some ((-9223372036854775808), S12)
      else
        some ((-9223372036854775808), S7)
  else
    some ((-9223372036854775808), S2)
set_option maxHeartbeats 4000000 in
set_option maxRecDepth 100000 in
theorem t_X11_plan {g : z_G} {K : z_K} (n : Nat) {v : Int64} {S' : z_Stt} (cx : z_C g M_X11_plan 4 K) (ce : z_E' g M_X11_plan (z_P g (some (.long v)) S') K) (a0 : Int32) (a1 : Int32) (a2 : Int32) (S : z_Stt) (h : f_X11_plan n a0 a1 a2 S = some (v, S')) : z_At g M_X11_plan K 0 [some (.ref (z_ad g 48)), some (.int a0), some (.int a1), some (.int a2), none, none, none, none, none, none, none, none, none, none] [] (hp g S) := by
  unfold f_X11_plan at h
  refine z_aload_n cx rfl rfl dX11_plan_0 ?_
  refine z_iload_n cx rfl rfl dX11_plan_1 ?_
  obtain ⟨v1, S2, e3, h⟩ := g_bd_ex h
  refine q_cvi (As := [.int a0]) cx mo_X11_isDr mv_X11_isDr z_cl11 rfl tb_634 (by decide) rfl (by decide) rfl rfl (Nat.le_of_ble_eq_true rfl) dX11_plan_2 (c_X11_isDr a0 _ e3) ?_
  refine q_ifb_eq (tgt := 48) cx (by decide) dX11_plan_5 (fun c4 => ?_) (fun c4 => ?_)
  · have h := g_f (Bool.eq_false_iff.mp c4) h
    refine z_ldc2 cx tb_485 dX11_plan_48 ?_
    obtain ⟨rfl, rfl⟩ := g_some h
    exact z_lreturn cx ce rfl ⟨rfl, rfl⟩ dX11_plan_51
  · have h := g_t c4 h
    refine z_iload_n cx rfl rfl dX11_plan_8 ?_
    refine z_if_lt (tgt := 48) cx (by decide) dX11_plan_9 (fun c5 => ?_) (fun c5 => ?_)
    · have h := g_t c5 h
      refine z_ldc2 cx tb_485 dX11_plan_48 ?_
      obtain ⟨rfl, rfl⟩ := g_some h
      exact z_lreturn cx ce rfl ⟨rfl, rfl⟩ dX11_plan_51
    · have h := g_f c5 h
      refine z_iload_n cx rfl rfl dX11_plan_12 ?_
      refine z_bipush (v := 64) cx (by decide +kernel) dX11_plan_13 ?_
      refine z_idiv cx (by decide +kernel) dX11_plan_15 ?_
      refine z_i2l cx dX11_plan_16 ?_
      obtain ⟨v6, S7, e8, h⟩ := g_bd_ex h
      refine q_csi (As := [.long (Int32.toInt64 (a1 / 64))]) cx mo_X11_isYards ms_X11_isYards tb_544 (by decide) rfl rfl (Nat.le_of_ble_eq_true rfl) dX11_plan_17 (c_X11_isYards (Int32.toInt64 (a1 / 64)) _ e8) ?_
      refine q_ifb_eq (tgt := 48) cx (by decide) dX11_plan_20 (fun c9 => ?_) (fun c9 => ?_)
      · have h := g_f (Bool.eq_false_iff.mp c9) h
        refine z_ldc2 cx tb_485 dX11_plan_48 ?_
        obtain ⟨rfl, rfl⟩ := g_some h
        exact z_lreturn cx ce rfl ⟨rfl, rfl⟩ dX11_plan_51
      · have h := g_t c9 h
        refine z_iload_n cx rfl rfl dX11_plan_23 ?_
        refine z_bipush (v := 64) cx (by decide +kernel) dX11_plan_24 ?_
        refine z_irem cx (by decide +kernel) dX11_plan_26 ?_
        refine z_iconst (v := 1) cx (by decide +kernel) dX11_plan_27 ?_
        refine z_aload_n cx rfl rfl dX11_plan_28 ?_
        refine q_getI (k := 48) (n := 4806) cx z_cl11 (j := 6) (by decide) tb_184 rfl (by decide) rfl rfl rfl dX11_plan_29 ?_
        refine z_ishl cx dX11_plan_32 ?_
        refine z_icmp_ge (tgt := 48) cx (by decide) dX11_plan_33 (fun c10 => ?_) (fun c10 => ?_)
        · have h := g_t c10 h
          refine z_ldc2 cx tb_485 dX11_plan_48 ?_
          obtain ⟨rfl, rfl⟩ := g_some h
          exact z_lreturn cx ce rfl ⟨rfl, rfl⟩ dX11_plan_51
        · have h := g_f c10 h
          refine z_iload_n cx rfl rfl dX11_plan_36 ?_
          refine z_i2l cx dX11_plan_37 ?_
          refine z_lconst (v := 0) cx (by decide +kernel) dX11_plan_38 ?_
          refine z_ldc2 cx tb_484 dX11_plan_39 ?_
          obtain ⟨v11, S12, e13, h⟩ := g_bd_ex h
          refine q_csi (As := [.long (Int32.toInt64 a2), .long 0, .long 2]) cx mo_X11_within ms_X11_within tb_185 (by decide) rfl rfl (Nat.le_of_ble_eq_true rfl) dX11_plan_42 (c_X11_within (Int32.toInt64 a2) 0 2 _ e13) ?_
          refine q_ifb_ne (tgt := 52) cx (by decide) dX11_plan_45 (fun c14 => ?_) (fun c14 => ?_)
          · have h := g_t c14 h
            refine z_aload_n cx rfl rfl dX11_plan_52 ?_
            refine z_iload_n cx rfl rfl dX11_plan_53 ?_
            obtain ⟨v15, S16, e17, h⟩ := g_bd_ex h
            refine q_cvi (As := [.int a0]) cx mo_X11_asksAll mv_X11_asksAll z_cl11 rfl tb_641 (by decide) rfl (by decide) rfl rfl (Nat.le_of_ble_eq_true rfl) dX11_plan_54 (c_X11_asksAll a0 _ e17) ?_
            refine q_ifb_ne (tgt := 64) cx (by decide) dX11_plan_57 (fun c18 => ?_) (fun c18 => ?_)
            · have h := g_t c18 h
              refine z_iload_n cx rfl rfl dX11_plan_64 ?_
              refine z_bipush (v := 64) cx (by decide +kernel) dX11_plan_65 ?_
              refine z_idiv cx (by decide +kernel) dX11_plan_67 ?_
              refine z_istore (L' := [some (.ref (z_ad g 48)), some (.int a0), some (.int a1), some (.int a2), some (.int (a1 / 64)), none, none, none, none, none, none, none, none, none]) cx (by decide) rfl dX11_plan_68 ?_
              refine z_ldc2 cx tb_221 dX11_plan_70 ?_
              refine z_aload_n cx rfl rfl dX11_plan_73 ?_
              refine z_iload_n cx rfl rfl dX11_plan_74 ?_
              refine z_bipush (v := 64) cx (by decide +kernel) dX11_plan_75 ?_
              refine z_irem cx (by decide +kernel) dX11_plan_77 ?_
              obtain ⟨v19, S20, e21, h⟩ := g_bd_ex h
              refine q_cvl (As := [.int (a0 % 64)]) cx mo_X11_staysFor mv_X11_staysFor z_cl11 rfl tb_648 (by decide) rfl (by decide) rfl rfl (Nat.le_of_ble_eq_true rfl) dX11_plan_78 (c_X11_staysFor (a0 % 64) _ e21) ?_
              refine z_lmul cx dX11_plan_81 ?_
              refine z_lstore (L' := [some (.ref (z_ad g 48)), some (.int a0), some (.int a1), some (.int a2), some (.int (a1 / 64)), some (.long (12 * v19)), none, none, none, none, none, none, none, none]) cx (by decide) rfl dX11_plan_82 ?_
              refine z_bipush (v := 12) cx (by decide +kernel) dX11_plan_84 ?_
              refine z_aload_n cx rfl rfl dX11_plan_86 ?_
              refine z_iload cx rfl dX11_plan_87 ?_
              obtain ⟨v22, S23, e24, h⟩ := g_bd_ex h
              refine q_cvi (As := [.int (a1 / 64)]) cx mo_X11_backCosts mv_X11_backCosts z_cl11 rfl tb_552 (by decide) rfl (by decide) rfl rfl (Nat.le_of_ble_eq_true rfl) dX11_plan_89 (c_X11_backCosts (a1 / 64) _ e24) ?_
              refine z_imul cx dX11_plan_92 ?_
              refine z_i2l cx dX11_plan_93 ?_
              refine z_aload_n cx rfl rfl dX11_plan_94 ?_
              refine q_getJ (k := 48) (n := 4825) cx z_cl11 (j := 25) (by decide) tb_633 rfl (by decide) rfl rfl rfl dX11_plan_95 ?_
              refine z_lmul cx dX11_plan_98 ?_
              refine z_lstore (L' := [some (.ref (z_ad g 48)), some (.int a0), some (.int a1), some (.int a2), some (.int (a1 / 64)), some (.long (12 * v19)), none, some (.long ((Int32.toInt64 (12 * v22)) * (S23.2.1 4825))), none, none, none, none, none, none]) cx (by decide) rfl dX11_plan_99 ?_
              refine z_aload_n cx rfl rfl dX11_plan_101 ?_
              refine z_iload_n cx rfl rfl dX11_plan_102 ?_
              refine z_bipush (v := 64) cx (by decide +kernel) dX11_plan_103 ?_
              refine z_irem cx (by decide +kernel) dX11_plan_105 ?_
              refine z_iload_n cx rfl rfl dX11_plan_106 ?_
              refine z_bipush (v := 64) cx (by decide +kernel) dX11_plan_107 ?_
              refine z_irem cx (by decide +kernel) dX11_plan_109 ?_
              refine z_iload cx rfl dX11_plan_110 ?_
              obtain ⟨v25, S26, e27, h⟩ := g_bd_ex h
              refine q_cvl (As := [.int (a0 % 64), .int (a1 % 64), .int (a1 / 64)]) cx mo_X11_ringCosts mv_X11_ringCosts z_cl11 rfl tb_703 (by decide) rfl (by decide) rfl rfl (Nat.le_of_ble_eq_true rfl) dX11_plan_112 (c_X11_ringCosts (a0 % 64) (a1 % 64) (a1 / 64) _ e27) ?_
              refine z_lstore (L' := [some (.ref (z_ad g 48)), some (.int a0), some (.int a1), some (.int a2), some (.int (a1 / 64)), some (.long (12 * v19)), none, some (.long ((Int32.toInt64 (12 * v22)) * (S23.2.1 4825))), none, some (.long v25), none, none, none, none]) cx (by decide) rfl dX11_plan_115 ?_
              refine z_lload cx rfl dX11_plan_117 ?_
              refine z_lload cx rfl dX11_plan_119 ?_
              refine z_lcmp cx dX11_plan_121 ?_
              refine z_if_ge (tgt := 129) cx (by decide) dX11_plan_122 (fun c28 => ?_) (fun c28 => ?_)
              · have h := g_t c28 h
                refine z_iconst (v := 0) cx (by decide +kernel) dX11_plan_129 ?_
                exact q_weak (z_wk_s (z_wk_n (z_wk_n (z_wk_s (z_wk_n (z_wk_s (z_wk_n (z_wk_s (z_wk_n (z_wk_s (z_wk_n (z_wk_n (z_wk_n (z_wk_n (z_wk_0))))))))))))))) (t_X11_plan_130 n cx ce a2 (12 * v19) ((Int32.toInt64 (12 * v22)) * (S23.2.1 4825)) v25 0 S26 h)
              · have h := g_f c28 h
                refine z_iconst (v := 1) cx (by decide +kernel) dX11_plan_125 ?_
                refine z_goto (tgt := 130) cx (by decide) dX11_plan_126 ?_
                exact q_weak (z_wk_s (z_wk_n (z_wk_n (z_wk_s (z_wk_n (z_wk_s (z_wk_n (z_wk_s (z_wk_n (z_wk_s (z_wk_n (z_wk_n (z_wk_n (z_wk_n (z_wk_0))))))))))))))) (t_X11_plan_130 n cx ce a2 (12 * v19) ((Int32.toInt64 (12 * v22)) * (S23.2.1 4825)) v25 1 S26 h)
            · have h := g_f (Bool.eq_false_iff.mp c18) h
              refine z_ldc2 cx tb_488 dX11_plan_60 ?_
              obtain ⟨rfl, rfl⟩ := g_some h
              exact z_lreturn cx ce rfl ⟨rfl, rfl⟩ dX11_plan_63
          · have h := g_f (Bool.eq_false_iff.mp c14) h
            refine z_ldc2 cx tb_485 dX11_plan_48 ?_
            obtain ⟨rfl, rfl⟩ := g_some h
            exact z_lreturn cx ce rfl ⟨rfl, rfl⟩ dX11_plan_51
theorem c_X11_plan {g : z_G} {n : Nat} (a0 : Int32) (a1 : Int32) (a2 : Int32) (S : z_Stt) {v : Int64} {S' : z_Stt} (h : f_X11_plan n a0 a1 a2 S = some (v, S')) : z_Ct g M_X11_plan 4 [.ref (z_ad g 48), .int a0, .int a1, .int a2] (hp g S) (z_P g (some (.long v)) S') :=
  z_Ct.of (by decide +kernel) rfl (Nat.le_of_ble_eq_true rfl) (fun K cx ce => q_weak (L' := [some (.ref (z_ad g 48)), some (.int a0), some (.int a1), some (.int a2), none, none, none, none, none, none, none, none, none, none]) (z_wk_s (z_wk_s (z_wk_s (z_wk_s (z_wk_e (z_wk_e (z_wk_e (z_wk_e (z_wk_e (z_wk_e (z_wk_e (z_wk_e (z_wk_e (z_wk_e (z_wk_0))))))))))))))) (t_X11_plan n cx ce a0 a1 a2 S h))
abbrev M_X11_rung : z_M := (RX11, yX11_rung, cX11_rung, 1, some .int)
theorem mo_X11_rung : z_mo M_X11_rung 0 := ⟨tb_715, tb_5, rfl, ⟨by decide +kernel, by decide +kernel⟩, by decide +kernel, by decide⟩
theorem mv_X11_rung : z_mv M_X11_rung := ⟨tb_713, tb_714⟩
def f_X11_rung_19 (y0 : Int32) (y1 : Int32) (S : z_Stt) : Option (Int32 × z_Stt) :=
  g_let (sI S 4810 (y1 + y0)) fun S1 =>
  some (S1.1 4810, S1)
set_option maxHeartbeats 4000000 in
set_option maxRecDepth 100000 in
theorem t_X11_rung_19 {g : z_G} {K : z_K} {v : Int32} {S' : z_Stt} (cx : z_C g M_X11_rung 0 K) (ce : z_E' g M_X11_rung (z_P g (some (.int v)) S') K) (y0 : Int32) (y1 : Int32) (S : z_Stt) (h : f_X11_rung_19 y0 y1 S = some (v, S')) : z_At g M_X11_rung K 19 [some (.ref (z_ad g 48))] [.int y0, .int y1, .ref (z_ad g 48)] (hp g S) := by
  unfold f_X11_rung_19 at h
  refine z_iadd cx dX11_rung_19 ?_
  refine q_putI (k := 48) (n := 4810) cx z_cl11 (j := 10) (by decide) tb_312 rfl rfl rfl (by decide) rfl rfl rfl (by decide) (by decide) dX11_rung_20 ?_
  obtain ⟨S1, e2, h⟩ := g_let_ex h
  rw [← e2]
  refine z_aload_n cx rfl rfl dX11_rung_23 ?_
  refine q_getI (k := 48) (n := 4810) cx z_cl11 (j := 10) (by decide) tb_312 rfl (by decide) rfl rfl rfl dX11_rung_24 ?_
  obtain ⟨rfl, rfl⟩ := g_some h
  exact z_ireturn cx ce rfl ⟨rfl, rfl⟩ dX11_rung_27
def f_X11_rung (S : z_Stt) : Option (Int32 × z_Stt) :=
  if 12 ≤ S.1 4810 then
    f_X11_rung_19 0 (S.1 4810) S
  else
    f_X11_rung_19 1 (S.1 4810) S
set_option maxHeartbeats 4000000 in
set_option maxRecDepth 100000 in
theorem t_X11_rung {g : z_G} {K : z_K} {v : Int32} {S' : z_Stt} (cx : z_C g M_X11_rung 0 K) (ce : z_E' g M_X11_rung (z_P g (some (.int v)) S') K) (S : z_Stt) (h : f_X11_rung S = some (v, S')) : z_At g M_X11_rung K 0 [some (.ref (z_ad g 48))] [] (hp g S) := by
  unfold f_X11_rung at h
  refine z_aload_n cx rfl rfl dX11_rung_0 ?_
  refine z_dup cx rfl dX11_rung_1 ?_
  refine q_getI (k := 48) (n := 4810) cx z_cl11 (j := 10) (by decide) tb_312 rfl (by decide) rfl rfl rfl dX11_rung_2 ?_
  refine z_aload_n cx rfl rfl dX11_rung_5 ?_
  refine q_getI (k := 48) (n := 4810) cx z_cl11 (j := 10) (by decide) tb_312 rfl (by decide) rfl rfl rfl dX11_rung_6 ?_
  refine z_bipush (v := 12) cx (by decide +kernel) dX11_rung_9 ?_
  refine z_icmp_ge (tgt := 18) cx (by decide) dX11_rung_11 (fun c1 => ?_) (fun c1 => ?_)
  · have h := g_t c1 h
    refine z_iconst (v := 0) cx (by decide +kernel) dX11_rung_18 ?_
    exact q_weak (z_wk_s (z_wk_0)) (t_X11_rung_19 cx ce 0 (S.1 4810) S h)
  · have h := g_f c1 h
    refine z_iconst (v := 1) cx (by decide +kernel) dX11_rung_14 ?_
    refine z_goto (tgt := 19) cx (by decide) dX11_rung_15 ?_
    exact q_weak (z_wk_s (z_wk_0)) (t_X11_rung_19 cx ce 1 (S.1 4810) S h)
theorem c_X11_rung {g : z_G} (S : z_Stt) {v : Int32} {S' : z_Stt} (h : f_X11_rung S = some (v, S')) : z_Ct g M_X11_rung 0 [.ref (z_ad g 48)] (hp g S) (z_P g (some (.int v)) S') :=
  z_Ct.of (by decide +kernel) rfl (Nat.le_of_ble_eq_true rfl) (fun K cx ce => q_weak (L' := [some (.ref (z_ad g 48))]) (z_wk_s (z_wk_0)) (t_X11_rung cx ce S h))
abbrev M_X11_camera : z_M := (RX11, yX11_camera, cX11_camera, 21, some .long)
theorem mo_X11_camera : z_mo M_X11_camera 3 := ⟨tb_840, tb_5, rfl, ⟨by decide +kernel, by decide +kernel⟩, by decide +kernel, by decide⟩
theorem mv_X11_camera : z_mv M_X11_camera := ⟨tb_838, tb_839⟩
def f_X11_camera_244 (n : Nat) (k90 : Int32 → Int32 → Int64 → Int64 → Int32 → Int64 → Int32 → z_Stt → Option (Int64 × z_Stt)) (x3 : Int32) (x4 : Int32) (x5 : Int64) (x7 : Int64) (x9 : Int32) (x10 : Int64) (x12 : Int32) (S : z_Stt) : Option (Int64 × z_Stt) :=
  k90 x3 x4 x5 x7 x9 x10 (x12 + 1) S
set_option maxHeartbeats 4000000 in
set_option maxRecDepth 100000 in
theorem t_X11_camera_244 {g : z_G} {K : z_K} (n : Nat) {v : Int64} {S' : z_Stt} (cx : z_C g M_X11_camera 4 K) (ce : z_E' g M_X11_camera (z_P g (some (.long v)) S') K) (k90 : Int32 → Int32 → Int64 → Int64 → Int32 → Int64 → Int32 → z_Stt → Option (Int64 × z_Stt)) (hk90 : ∀ (x3 : Int32) (x4 : Int32) (x5 : Int64) (x7 : Int64) (x9 : Int32) (x10 : Int64) (x12 : Int32) (S : z_Stt), k90 x3 x4 x5 x7 x9 x10 x12 S = some (v, S') → z_At g M_X11_camera K 90 [some (.ref (z_ad g 48)), none, none, some (.int x3), some (.int x4), some (.long x5), none, some (.long x7), none, some (.int x9), some (.long x10), none, some (.int x12), none, none, none, none, none, none, none, none] [] (hp g S)) (x3 : Int32) (x4 : Int32) (x5 : Int64) (x7 : Int64) (x9 : Int32) (x10 : Int64) (x12 : Int32) (S : z_Stt) (h : f_X11_camera_244 n k90 x3 x4 x5 x7 x9 x10 x12 S = some (v, S')) : z_At g M_X11_camera K 244 [some (.ref (z_ad g 48)), none, none, some (.int x3), some (.int x4), some (.long x5), none, some (.long x7), none, some (.int x9), some (.long x10), none, some (.int x12), none, none, none, none, none, none, none, none] [] (hp g S) := by
  unfold f_X11_camera_244 at h
  refine z_iinc (c := 1) (L' := [some (.ref (z_ad g 48)), none, none, some (.int x3), some (.int x4), some (.long x5), none, some (.long x7), none, some (.int x9), some (.long x10), none, some (.int (x12 + 1)), none, none, none, none, none, none, none, none]) cx rfl (by decide +kernel) (by decide) rfl dX11_camera_244 ?_
  refine z_goto (tgt := 90) cx (by decide) dX11_camera_247 ?_
  exact q_weak (z_wk_s (z_wk_n (z_wk_n (z_wk_s (z_wk_s (z_wk_s (z_wk_n (z_wk_s (z_wk_n (z_wk_s (z_wk_s (z_wk_n (z_wk_s (z_wk_n (z_wk_n (z_wk_n (z_wk_n (z_wk_n (z_wk_n (z_wk_n (z_wk_n (z_wk_0)))))))))))))))))))))) (hk90 x3 x4 x5 x7 x9 x10 (x12 + 1) S h)
def f_X11_camera_242 (n : Nat) (k90 : Int32 → Int32 → Int64 → Int64 → Int32 → Int64 → Int32 → z_Stt → Option (Int64 × z_Stt)) (x3 : Int32) (x4 : Int32) (x5 : Int64) (x7 : Int64) (x9 : Int32) (x12 : Int32) (y0 : Int64) (S : z_Stt) : Option (Int64 × z_Stt) :=
  f_X11_camera_244 n k90 x3 x4 x5 x7 x9 y0 x12 S
set_option maxHeartbeats 4000000 in
set_option maxRecDepth 100000 in
theorem t_X11_camera_242 {g : z_G} {K : z_K} (n : Nat) {v : Int64} {S' : z_Stt} (cx : z_C g M_X11_camera 4 K) (ce : z_E' g M_X11_camera (z_P g (some (.long v)) S') K) (k90 : Int32 → Int32 → Int64 → Int64 → Int32 → Int64 → Int32 → z_Stt → Option (Int64 × z_Stt)) (hk90 : ∀ (x3 : Int32) (x4 : Int32) (x5 : Int64) (x7 : Int64) (x9 : Int32) (x10 : Int64) (x12 : Int32) (S : z_Stt), k90 x3 x4 x5 x7 x9 x10 x12 S = some (v, S') → z_At g M_X11_camera K 90 [some (.ref (z_ad g 48)), none, none, some (.int x3), some (.int x4), some (.long x5), none, some (.long x7), none, some (.int x9), some (.long x10), none, some (.int x12), none, none, none, none, none, none, none, none] [] (hp g S)) (x3 : Int32) (x4 : Int32) (x5 : Int64) (x7 : Int64) (x9 : Int32) (x12 : Int32) (y0 : Int64) (S : z_Stt) (h : f_X11_camera_242 n k90 x3 x4 x5 x7 x9 x12 y0 S = some (v, S')) : z_At g M_X11_camera K 242 [some (.ref (z_ad g 48)), none, none, some (.int x3), some (.int x4), some (.long x5), none, some (.long x7), none, some (.int x9), none, none, some (.int x12), none, none, none, none, none, none, none, none] [.long y0] (hp g S) := by
  unfold f_X11_camera_242 at h
  refine z_lstore (L' := [some (.ref (z_ad g 48)), none, none, some (.int x3), some (.int x4), some (.long x5), none, some (.long x7), none, some (.int x9), some (.long y0), none, some (.int x12), none, none, none, none, none, none, none, none]) cx (by decide) rfl dX11_camera_242 ?_
  exact q_weak (z_wk_s (z_wk_n (z_wk_n (z_wk_s (z_wk_s (z_wk_s (z_wk_n (z_wk_s (z_wk_n (z_wk_s (z_wk_s (z_wk_n (z_wk_s (z_wk_n (z_wk_n (z_wk_n (z_wk_n (z_wk_n (z_wk_n (z_wk_n (z_wk_n (z_wk_0)))))))))))))))))))))) (t_X11_camera_244 n cx ce k90 hk90 x3 x4 x5 x7 x9 y0 x12 S h)
def f_X11_camera_226 (n : Nat) (k90 : Int32 → Int32 → Int64 → Int64 → Int32 → Int64 → Int32 → z_Stt → Option (Int64 × z_Stt)) (x3 : Int32) (x4 : Int32) (x5 : Int64) (x7 : Int64) (x10 : Int64) (x12 : Int32) (x19 : Int64) (y0 : Int32) (S : z_Stt) : Option (Int64 × z_Stt) :=
  if y0 = x12 then
    f_X11_camera_242 n k90 x3 x4 x5 x7 y0 x12 x19 S
  else
    f_X11_camera_242 n k90 x3 x4 x5 x7 y0 x12 x10 S
set_option maxHeartbeats 4000000 in
set_option maxRecDepth 100000 in
theorem t_X11_camera_226 {g : z_G} {K : z_K} (n : Nat) {v : Int64} {S' : z_Stt} (cx : z_C g M_X11_camera 4 K) (ce : z_E' g M_X11_camera (z_P g (some (.long v)) S') K) (k90 : Int32 → Int32 → Int64 → Int64 → Int32 → Int64 → Int32 → z_Stt → Option (Int64 × z_Stt)) (hk90 : ∀ (x3 : Int32) (x4 : Int32) (x5 : Int64) (x7 : Int64) (x9 : Int32) (x10 : Int64) (x12 : Int32) (S : z_Stt), k90 x3 x4 x5 x7 x9 x10 x12 S = some (v, S') → z_At g M_X11_camera K 90 [some (.ref (z_ad g 48)), none, none, some (.int x3), some (.int x4), some (.long x5), none, some (.long x7), none, some (.int x9), some (.long x10), none, some (.int x12), none, none, none, none, none, none, none, none] [] (hp g S)) (x3 : Int32) (x4 : Int32) (x5 : Int64) (x7 : Int64) (x10 : Int64) (x12 : Int32) (x19 : Int64) (y0 : Int32) (S : z_Stt) (h : f_X11_camera_226 n k90 x3 x4 x5 x7 x10 x12 x19 y0 S = some (v, S')) : z_At g M_X11_camera K 226 [some (.ref (z_ad g 48)), none, none, some (.int x3), some (.int x4), some (.long x5), none, some (.long x7), none, none, some (.long x10), none, some (.int x12), none, none, none, none, none, none, some (.long x19), none] [.int y0] (hp g S) := by
  unfold f_X11_camera_226 at h
  refine z_istore (L' := [some (.ref (z_ad g 48)), none, none, some (.int x3), some (.int x4), some (.long x5), none, some (.long x7), none, some (.int y0), some (.long x10), none, some (.int x12), none, none, none, none, none, none, some (.long x19), none]) cx (by decide) rfl dX11_camera_226 ?_
  refine z_iload cx rfl dX11_camera_228 ?_
  refine z_iload cx rfl dX11_camera_230 ?_
  refine z_icmp_ne (tgt := 240) cx (by decide) dX11_camera_232 (fun c1 => ?_) (fun c1 => ?_)
  · have h := g_f c1 h
    refine z_lload cx rfl dX11_camera_240 ?_
    exact q_weak (z_wk_s (z_wk_n (z_wk_n (z_wk_s (z_wk_s (z_wk_s (z_wk_n (z_wk_s (z_wk_n (z_wk_s (z_wk_n (z_wk_n (z_wk_s (z_wk_n (z_wk_n (z_wk_n (z_wk_n (z_wk_n (z_wk_n (z_wk_n (z_wk_n (z_wk_0)))))))))))))))))))))) (t_X11_camera_242 n cx ce k90 hk90 x3 x4 x5 x7 y0 x12 x10 S h)
  · have h := g_t c1 h
    refine z_lload cx rfl dX11_camera_235 ?_
    refine z_goto (tgt := 242) cx (by decide) dX11_camera_237 ?_
    exact q_weak (z_wk_s (z_wk_n (z_wk_n (z_wk_s (z_wk_s (z_wk_s (z_wk_n (z_wk_s (z_wk_n (z_wk_s (z_wk_n (z_wk_n (z_wk_s (z_wk_n (z_wk_n (z_wk_n (z_wk_n (z_wk_n (z_wk_n (z_wk_n (z_wk_n (z_wk_0)))))))))))))))))))))) (t_X11_camera_242 n cx ce k90 hk90 x3 x4 x5 x7 y0 x12 x19 S h)
def f_X11_camera_219 (n : Nat) (k90 : Int32 → Int32 → Int64 → Int64 → Int32 → Int64 → Int32 → z_Stt → Option (Int64 × z_Stt)) (x3 : Int32) (x4 : Int32) (x5 : Int64) (x7 : Int64) (x10 : Int64) (x12 : Int32) (x19 : Int64) (S : z_Stt) : Option (Int64 × z_Stt) :=
  f_X11_camera_226 n k90 x3 x4 x5 x7 x10 x12 x19 x12 S
set_option maxHeartbeats 4000000 in
set_option maxRecDepth 100000 in
theorem t_X11_camera_219 {g : z_G} {K : z_K} (n : Nat) {v : Int64} {S' : z_Stt} (cx : z_C g M_X11_camera 4 K) (ce : z_E' g M_X11_camera (z_P g (some (.long v)) S') K) (k90 : Int32 → Int32 → Int64 → Int64 → Int32 → Int64 → Int32 → z_Stt → Option (Int64 × z_Stt)) (hk90 : ∀ (x3 : Int32) (x4 : Int32) (x5 : Int64) (x7 : Int64) (x9 : Int32) (x10 : Int64) (x12 : Int32) (S : z_Stt), k90 x3 x4 x5 x7 x9 x10 x12 S = some (v, S') → z_At g M_X11_camera K 90 [some (.ref (z_ad g 48)), none, none, some (.int x3), some (.int x4), some (.long x5), none, some (.long x7), none, some (.int x9), some (.long x10), none, some (.int x12), none, none, none, none, none, none, none, none] [] (hp g S)) (x3 : Int32) (x4 : Int32) (x5 : Int64) (x7 : Int64) (x10 : Int64) (x12 : Int32) (x19 : Int64) (S : z_Stt) (h : f_X11_camera_219 n k90 x3 x4 x5 x7 x10 x12 x19 S = some (v, S')) : z_At g M_X11_camera K 219 [some (.ref (z_ad g 48)), none, none, some (.int x3), some (.int x4), some (.long x5), none, some (.long x7), none, none, some (.long x10), none, some (.int x12), none, none, none, none, none, none, some (.long x19), none] [] (hp g S) := by
  unfold f_X11_camera_219 at h
  refine z_iload cx rfl dX11_camera_219 ?_
  refine z_goto (tgt := 226) cx (by decide) dX11_camera_221 ?_
  exact q_weak (z_wk_s (z_wk_n (z_wk_n (z_wk_s (z_wk_s (z_wk_s (z_wk_n (z_wk_s (z_wk_n (z_wk_n (z_wk_s (z_wk_n (z_wk_s (z_wk_n (z_wk_n (z_wk_n (z_wk_n (z_wk_n (z_wk_n (z_wk_s (z_wk_n (z_wk_0)))))))))))))))))))))) (t_X11_camera_226 n cx ce k90 hk90 x3 x4 x5 x7 x10 x12 x19 x12 S h)
def f_X11_camera_90 (n : Nat) : Nat → Int32 → Int32 → Int64 → Int64 → Int32 → Int64 → Int32 → z_Stt → Option (Int64 × z_Stt)
  | 0, _, _, _, _, _, _, _, _ => none
  | m + 1, x3, x4, x5, x7, x9, x10, x12, S =>
    if S.1 4806 ≤ x12 then
      if x3 = 2 then
        some (Int32.toInt64 x9, S)
      else
        g_bd (f_X11_partOf n x10 (S.2.1 4825) x3 S) fun v3 S4 =>
        some (v3, S4)
    else
      g_bd (f_X11_isIn x4 x12 S) fun v6 S7 =>
      if v6 = true then
        g_bd (f_X11_staysFor n (x4 &&& ((1 <<< (x12 &&& 31)) ^^^ (-1))) S7) fun v10 S11 =>
        g_bd (f_X11_numberOf x12 3 S11) fun v13 S14 =>
        g_bd (f_X11_lesserOf x5 (((Int32.toInt64 v13) * (S14.2.1 4825)) + v10) S14) fun v16 S17 =>
        if ¬ (x12 < 0 ∨ 6 ≤ x12.toNatClampNeg) then
          if ¬ S17.2.2.2.1 59 x12.toNatClampNeg = 0 then
            g_bd (f_X11_lesserOf x5 v10 S17) fun v21 S22 =>
            if ¬ (x12 < 0 ∨ 6 ≤ x12.toNatClampNeg) then
              if ¬ S22.2.2.2.1 59 x12.toNatClampNeg = 0 then
                if ¬ (x12 < 0 ∨ 6 ≤ x12.toNatClampNeg) then
                  if ¬ (x12 < 0 ∨ 6 ≤ x12.toNatClampNeg) then
                    if ¬ (x12 < 0 ∨ 6 ≤ x12.toNatClampNeg) then
                      if x9 < 0 then
                        f_X11_camera_219 n (f_X11_camera_90 n m) x3 x4 x5 x7 x10 x12 ((x7 - ((S22.2.2.2.1 58 x12.toNatClampNeg) * (v16 / (S17.2.2.2.1 59 x12.toNatClampNeg)))) - (((S22.2.2.2.1 59 x12.toNatClampNeg) - (S22.2.2.2.1 58 x12.toNatClampNeg)) * (v21 / (S22.2.2.2.1 59 x12.toNatClampNeg)))) S22
                      else
                        if lg_cmp ((x7 - ((S22.2.2.2.1 58 x12.toNatClampNeg) * (v16 / (S17.2.2.2.1 59 x12.toNatClampNeg)))) - (((S22.2.2.2.1 59 x12.toNatClampNeg) - (S22.2.2.2.1 58 x12.toNatClampNeg)) * (v21 / (S22.2.2.2.1 59 x12.toNatClampNeg)))) x10 ≤ 0 then
                          f_X11_camera_226 n (f_X11_camera_90 n m) x3 x4 x5 x7 x10 x12 ((x7 - ((S22.2.2.2.1 58 x12.toNatClampNeg) * (v16 / (S17.2.2.2.1 59 x12.toNatClampNeg)))) - (((S22.2.2.2.1 59 x12.toNatClampNeg) - (S22.2.2.2.1 58 x12.toNatClampNeg)) * (v21 / (S22.2.2.2.1 59 x12.toNatClampNeg)))) x9 S22
                        else
                          f_X11_camera_219 n (f_X11_camera_90 n m) x3 x4 x5 x7 x10 x12 ((x7 - ((S22.2.2.2.1 58 x12.toNatClampNeg) * (v16 / (S17.2.2.2.1 59 x12.toNatClampNeg)))) - (((S22.2.2.2.1 59 x12.toNatClampNeg) - (S22.2.2.2.1 58 x12.toNatClampNeg)) * (v21 / (S22.2.2.2.1 59 x12.toNatClampNeg)))) S22
                    else none
                  else none
                else none
              else none
            else none
          else none
        else none
      else
        f_X11_camera_244 n (f_X11_camera_90 n m) x3 x4 x5 x7 x9 x10 x12 S7
set_option maxHeartbeats 4000000 in
set_option maxRecDepth 100000 in
theorem t_X11_camera_90 {g : z_G} {K : z_K} (n : Nat) {v : Int64} {S' : z_Stt} (cx : z_C g M_X11_camera 4 K) (ce : z_E' g M_X11_camera (z_P g (some (.long v)) S') K) : ∀ (m : Nat) (x3 : Int32) (x4 : Int32) (x5 : Int64) (x7 : Int64) (x9 : Int32) (x10 : Int64) (x12 : Int32) (S : z_Stt) (h : f_X11_camera_90 n m x3 x4 x5 x7 x9 x10 x12 S = some (v, S')), z_At g M_X11_camera K 90 [some (.ref (z_ad g 48)), none, none, some (.int x3), some (.int x4), some (.long x5), none, some (.long x7), none, some (.int x9), some (.long x10), none, some (.int x12), none, none, none, none, none, none, none, none] [] (hp g S) := by
  intro m
  induction m with
  | zero => intro x3 x4 x5 x7 x9 x10 x12 S h; simp [f_X11_camera_90] at h
  | succ m ih =>
    intro x3 x4 x5 x7 x9 x10 x12 S h
    rw [f_X11_camera_90] at h
    refine z_iload cx rfl dX11_camera_90 ?_
    refine z_aload_n cx rfl rfl dX11_camera_92 ?_
    refine q_getI (k := 48) (n := 4806) cx z_cl11 (j := 6) (by decide) tb_184 rfl (by decide) rfl rfl rfl dX11_camera_93 ?_
    refine z_icmp_ge (tgt := 250) cx (by decide) dX11_camera_96 (fun c1 => ?_) (fun c1 => ?_)
    · have h := g_t c1 h
      refine z_iload_n cx rfl rfl dX11_camera_250 ?_
      refine z_iconst (v := 2) cx (by decide +kernel) dX11_camera_251 ?_
      refine z_icmp_ne (tgt := 261) cx (by decide) dX11_camera_252 (fun c2 => ?_) (fun c2 => ?_)
      · have h := g_f c2 h
        refine z_lload cx rfl dX11_camera_261 ?_
        refine z_aload_n cx rfl rfl dX11_camera_263 ?_
        refine q_getJ (k := 48) (n := 4825) cx z_cl11 (j := 25) (by decide) tb_633 rfl (by decide) rfl rfl rfl dX11_camera_264 ?_
        refine z_iload_n cx rfl rfl dX11_camera_267 ?_
        obtain ⟨v3, S4, e5, h⟩ := g_bd_ex h
        refine q_csl (As := [.long x10, .long (S.2.1 4825), .int x3]) cx mo_X11_partOf ms_X11_partOf tb_508 (by decide) rfl rfl (Nat.le_of_ble_eq_true rfl) dX11_camera_268 (c_X11_partOf x10 (S.2.1 4825) x3 _ e5) ?_
        obtain ⟨rfl, rfl⟩ := g_some h
        exact z_lreturn cx ce rfl ⟨rfl, rfl⟩ dX11_camera_271
      · have h := g_t c2 h
        refine z_iload cx rfl dX11_camera_255 ?_
        refine z_i2l cx dX11_camera_257 ?_
        refine z_goto (tgt := 271) cx (by decide) dX11_camera_258 ?_
        obtain ⟨rfl, rfl⟩ := g_some h
        exact z_lreturn cx ce rfl ⟨rfl, rfl⟩ dX11_camera_271
    · have h := g_f c1 h
      refine z_iload cx rfl dX11_camera_99 ?_
      refine z_iload cx rfl dX11_camera_101 ?_
      obtain ⟨v6, S7, e8, h⟩ := g_bd_ex h
      refine q_csi (As := [.int x4, .int x12]) cx mo_X11_isIn ms_X11_isIn tb_645 (by decide) rfl rfl (Nat.le_of_ble_eq_true rfl) dX11_camera_103 (c_X11_isIn x4 x12 _ e8) ?_
      refine q_ifb_eq (tgt := 244) cx (by decide) dX11_camera_106 (fun c9 => ?_) (fun c9 => ?_)
      · have h := g_f (Bool.eq_false_iff.mp c9) h
        exact q_weak (z_wk_s (z_wk_n (z_wk_n (z_wk_s (z_wk_s (z_wk_s (z_wk_n (z_wk_s (z_wk_n (z_wk_s (z_wk_s (z_wk_n (z_wk_s (z_wk_n (z_wk_n (z_wk_n (z_wk_n (z_wk_n (z_wk_n (z_wk_n (z_wk_n (z_wk_0)))))))))))))))))))))) (t_X11_camera_244 n cx ce (f_X11_camera_90 n m) ih x3 x4 x5 x7 x9 x10 x12 S7 h)
      · have h := g_t c9 h
        refine z_aload_n cx rfl rfl dX11_camera_109 ?_
        refine z_iload cx rfl dX11_camera_110 ?_
        refine z_iconst (v := 1) cx (by decide +kernel) dX11_camera_112 ?_
        refine z_iload cx rfl dX11_camera_113 ?_
        refine z_ishl cx dX11_camera_115 ?_
        refine z_iconst (v := (-1)) cx (by decide +kernel) dX11_camera_116 ?_
        refine z_ixor cx dX11_camera_117 ?_
        refine z_iand cx dX11_camera_118 ?_
        obtain ⟨v10, S11, e12, h⟩ := g_bd_ex h
        refine q_cvl (As := [.int (x4 &&& ((1 <<< (x12 &&& 31)) ^^^ (-1)))]) cx mo_X11_staysFor mv_X11_staysFor z_cl11 rfl tb_648 (by decide) rfl (by decide) rfl rfl (Nat.le_of_ble_eq_true rfl) dX11_camera_119 (c_X11_staysFor (x4 &&& ((1 <<< (x12 &&& 31)) ^^^ (-1))) _ e12) ?_
        refine z_lstore (L' := [some (.ref (z_ad g 48)), none, none, some (.int x3), some (.int x4), some (.long x5), none, some (.long x7), none, some (.int x9), some (.long x10), none, some (.int x12), some (.long v10), none, none, none, none, none, none, none]) cx (by decide) rfl dX11_camera_122 ?_
        refine z_lload cx rfl dX11_camera_124 ?_
        refine z_aload_n cx rfl rfl dX11_camera_126 ?_
        refine z_iload cx rfl dX11_camera_127 ?_
        refine z_iconst (v := 3) cx (by decide +kernel) dX11_camera_129 ?_
        obtain ⟨v13, S14, e15, h⟩ := g_bd_ex h
        refine q_cvi (As := [.int x12, .int 3]) cx mo_X11_numberOf mv_X11_numberOf z_cl11 rfl tb_496 (by decide) rfl (by decide) rfl rfl (Nat.le_of_ble_eq_true rfl) dX11_camera_130 (c_X11_numberOf x12 3 _ e15) ?_
        refine z_i2l cx dX11_camera_133 ?_
        refine z_aload_n cx rfl rfl dX11_camera_134 ?_
        refine q_getJ (k := 48) (n := 4825) cx z_cl11 (j := 25) (by decide) tb_633 rfl (by decide) rfl rfl rfl dX11_camera_135 ?_
        refine z_lmul cx dX11_camera_138 ?_
        refine z_lload cx rfl dX11_camera_139 ?_
        refine z_ladd cx dX11_camera_141 ?_
        obtain ⟨v16, S17, e18, h⟩ := g_bd_ex h
        refine q_csl (As := [.long x5, .long (((Int32.toInt64 v13) * (S14.2.1 4825)) + v10)]) cx mo_X11_lesserOf ms_X11_lesserOf tb_652 (by decide) rfl rfl (Nat.le_of_ble_eq_true rfl) dX11_camera_142 (c_X11_lesserOf x5 (((Int32.toInt64 v13) * (S14.2.1 4825)) + v10) _ e18) ?_
        refine z_aload_n cx rfl rfl dX11_camera_145 ?_
        refine q_getF (k := 48) (n := 59) (r := 11) cx z_cl11 (j := 24) (by decide) tb_152 rfl (by decide) rfl rfl rfl dX11_camera_146 ?_
        refine z_iload cx rfl dX11_camera_149 ?_
        obtain ⟨c19, h⟩ := g_if h
        refine q_lald cx (by decide) rfl c19 dX11_camera_151 ?_
        obtain ⟨c20, h⟩ := g_if h
        refine z_ldiv cx c20 dX11_camera_152 ?_
        refine z_lstore (L' := [some (.ref (z_ad g 48)), none, none, some (.int x3), some (.int x4), some (.long x5), none, some (.long x7), none, some (.int x9), some (.long x10), none, some (.int x12), some (.long v10), none, some (.long (v16 / (S17.2.2.2.1 59 x12.toNatClampNeg))), none, none, none, none, none]) cx (by decide) rfl dX11_camera_153 ?_
        refine z_lload cx rfl dX11_camera_155 ?_
        refine z_lload cx rfl dX11_camera_157 ?_
        obtain ⟨v21, S22, e23, h⟩ := g_bd_ex h
        refine q_csl (As := [.long x5, .long v10]) cx mo_X11_lesserOf ms_X11_lesserOf tb_652 (by decide) rfl rfl (Nat.le_of_ble_eq_true rfl) dX11_camera_159 (c_X11_lesserOf x5 v10 _ e23) ?_
        refine z_aload_n cx rfl rfl dX11_camera_162 ?_
        refine q_getF (k := 48) (n := 59) (r := 11) cx z_cl11 (j := 24) (by decide) tb_152 rfl (by decide) rfl rfl rfl dX11_camera_163 ?_
        refine z_iload cx rfl dX11_camera_166 ?_
        obtain ⟨c24, h⟩ := g_if h
        refine q_lald cx (by decide) rfl c24 dX11_camera_168 ?_
        obtain ⟨c25, h⟩ := g_if h
        refine z_ldiv cx c25 dX11_camera_169 ?_
        refine z_lstore (L' := [some (.ref (z_ad g 48)), none, none, some (.int x3), some (.int x4), some (.long x5), none, some (.long x7), none, some (.int x9), some (.long x10), none, some (.int x12), some (.long v10), none, some (.long (v16 / (S17.2.2.2.1 59 x12.toNatClampNeg))), none, some (.long (v21 / (S22.2.2.2.1 59 x12.toNatClampNeg))), none, none, none]) cx (by decide) rfl dX11_camera_170 ?_
        refine z_lload cx rfl dX11_camera_172 ?_
        refine z_aload_n cx rfl rfl dX11_camera_174 ?_
        refine q_getF (k := 48) (n := 58) (r := 10) cx z_cl11 (j := 23) (by decide) tb_151 rfl (by decide) rfl rfl rfl dX11_camera_175 ?_
        refine z_iload cx rfl dX11_camera_178 ?_
        obtain ⟨c26, h⟩ := g_if h
        refine q_lald cx (by decide) rfl c26 dX11_camera_180 ?_
        refine z_lload cx rfl dX11_camera_181 ?_
        refine z_lmul cx dX11_camera_183 ?_
        refine z_lsub cx dX11_camera_184 ?_
        refine z_aload_n cx rfl rfl dX11_camera_185 ?_
        refine q_getF (k := 48) (n := 59) (r := 11) cx z_cl11 (j := 24) (by decide) tb_152 rfl (by decide) rfl rfl rfl dX11_camera_186 ?_
        refine z_iload cx rfl dX11_camera_189 ?_
        obtain ⟨c27, h⟩ := g_if h
        refine q_lald cx (by decide) rfl c27 dX11_camera_191 ?_
        refine z_aload_n cx rfl rfl dX11_camera_192 ?_
        refine q_getF (k := 48) (n := 58) (r := 10) cx z_cl11 (j := 23) (by decide) tb_151 rfl (by decide) rfl rfl rfl dX11_camera_193 ?_
        refine z_iload cx rfl dX11_camera_196 ?_
        obtain ⟨c28, h⟩ := g_if h
        refine q_lald cx (by decide) rfl c28 dX11_camera_198 ?_
        refine z_lsub cx dX11_camera_199 ?_
        refine z_lload cx rfl dX11_camera_200 ?_
        refine z_lmul cx dX11_camera_202 ?_
        refine z_lsub cx dX11_camera_203 ?_
        refine z_lstore (L' := [some (.ref (z_ad g 48)), none, none, some (.int x3), some (.int x4), some (.long x5), none, some (.long x7), none, some (.int x9), some (.long x10), none, some (.int x12), some (.long v10), none, some (.long (v16 / (S17.2.2.2.1 59 x12.toNatClampNeg))), none, some (.long (v21 / (S22.2.2.2.1 59 x12.toNatClampNeg))), none, some (.long ((x7 - ((S22.2.2.2.1 58 x12.toNatClampNeg) * (v16 / (S17.2.2.2.1 59 x12.toNatClampNeg)))) - (((S22.2.2.2.1 59 x12.toNatClampNeg) - (S22.2.2.2.1 58 x12.toNatClampNeg)) * (v21 / (S22.2.2.2.1 59 x12.toNatClampNeg))))), none]) cx (by decide) rfl dX11_camera_204 ?_
        refine z_iload cx rfl dX11_camera_206 ?_
        refine z_if_lt (tgt := 219) cx (by decide) dX11_camera_208 (fun c29 => ?_) (fun c29 => ?_)
        · have h := g_t c29 h
          exact q_weak (z_wk_s (z_wk_n (z_wk_n (z_wk_s (z_wk_s (z_wk_s (z_wk_n (z_wk_s (z_wk_n (z_wk_n (z_wk_s (z_wk_n (z_wk_s (z_wk_n (z_wk_n (z_wk_n (z_wk_n (z_wk_n (z_wk_n (z_wk_s (z_wk_n (z_wk_0)))))))))))))))))))))) (t_X11_camera_219 n cx ce (f_X11_camera_90 n m) ih x3 x4 x5 x7 x10 x12 ((x7 - ((S22.2.2.2.1 58 x12.toNatClampNeg) * (v16 / (S17.2.2.2.1 59 x12.toNatClampNeg)))) - (((S22.2.2.2.1 59 x12.toNatClampNeg) - (S22.2.2.2.1 58 x12.toNatClampNeg)) * (v21 / (S22.2.2.2.1 59 x12.toNatClampNeg)))) S22 h)
        · have h := g_f c29 h
          refine z_lload cx rfl dX11_camera_211 ?_
          refine z_lload cx rfl dX11_camera_213 ?_
          refine z_lcmp cx dX11_camera_215 ?_
          refine z_if_le (tgt := 224) cx (by decide) dX11_camera_216 (fun c30 => ?_) (fun c30 => ?_)
          · have h := g_t c30 h
            refine z_iload cx rfl dX11_camera_224 ?_
            exact q_weak (z_wk_s (z_wk_n (z_wk_n (z_wk_s (z_wk_s (z_wk_s (z_wk_n (z_wk_s (z_wk_n (z_wk_n (z_wk_s (z_wk_n (z_wk_s (z_wk_n (z_wk_n (z_wk_n (z_wk_n (z_wk_n (z_wk_n (z_wk_s (z_wk_n (z_wk_0)))))))))))))))))))))) (t_X11_camera_226 n cx ce (f_X11_camera_90 n m) ih x3 x4 x5 x7 x10 x12 ((x7 - ((S22.2.2.2.1 58 x12.toNatClampNeg) * (v16 / (S17.2.2.2.1 59 x12.toNatClampNeg)))) - (((S22.2.2.2.1 59 x12.toNatClampNeg) - (S22.2.2.2.1 58 x12.toNatClampNeg)) * (v21 / (S22.2.2.2.1 59 x12.toNatClampNeg)))) x9 S22 h)
          · have h := g_f c30 h
            exact q_weak (z_wk_s (z_wk_n (z_wk_n (z_wk_s (z_wk_s (z_wk_s (z_wk_n (z_wk_s (z_wk_n (z_wk_n (z_wk_s (z_wk_n (z_wk_s (z_wk_n (z_wk_n (z_wk_n (z_wk_n (z_wk_n (z_wk_n (z_wk_s (z_wk_n (z_wk_0)))))))))))))))))))))) (t_X11_camera_219 n cx ce (f_X11_camera_90 n m) ih x3 x4 x5 x7 x10 x12 ((x7 - ((S22.2.2.2.1 58 x12.toNatClampNeg) * (v16 / (S17.2.2.2.1 59 x12.toNatClampNeg)))) - (((S22.2.2.2.1 59 x12.toNatClampNeg) - (S22.2.2.2.1 58 x12.toNatClampNeg)) * (v21 / (S22.2.2.2.1 59 x12.toNatClampNeg)))) S22 h)
def f_X11_camera (n : Nat) (a0 : Int32) (a1 : Int32) (a2 : Int32) (S : z_Stt) : Option (Int64 × z_Stt) :=
  g_bd (f_X11_isDr n a0 S) fun v1 S2 =>
  if v1 = true then
    g_bd (f_X11_isYards (Int32.toInt64 a1) S2) fun v5 S6 =>
    if v5 = true then
      g_bd (f_X11_within (Int32.toInt64 a2) 0 2 S6) fun v9 S10 =>
      if v9 = true then
        g_bd (f_X11_asksAll n a0 S10) fun v13 S14 =>
        if v13 = true then
          if a0 % 64 = 0 then
            some ((-2), S14)
          else
            g_bd (f_X11_backCosts a1 S14) fun v18 S19 =>
            g_bd (f_X11_staysFor n (a0 % 64) S19) fun v21 S22 =>
            g_bd (f_X11_lesserOf ((Int32.toInt64 v18) * (S19.2.1 4825)) v21 S22) fun v24 S25 =>
            f_X11_camera_90 n n a2 (a0 % 64) ((Int32.toInt64 v18) * (S19.2.1 4825)) v24 (-1) 0 0 S25
        else
          some ((-2), S14)
      else
        some ((-9223372036854775808), S10)
    else
      some ((-9223372036854775808), S6)
  else
    some ((-9223372036854775808), S2)
set_option maxHeartbeats 4000000 in
set_option maxRecDepth 100000 in
theorem t_X11_camera {g : z_G} {K : z_K} (n : Nat) {v : Int64} {S' : z_Stt} (cx : z_C g M_X11_camera 4 K) (ce : z_E' g M_X11_camera (z_P g (some (.long v)) S') K) (a0 : Int32) (a1 : Int32) (a2 : Int32) (S : z_Stt) (h : f_X11_camera n a0 a1 a2 S = some (v, S')) : z_At g M_X11_camera K 0 [some (.ref (z_ad g 48)), some (.int a0), some (.int a1), some (.int a2), none, none, none, none, none, none, none, none, none, none, none, none, none, none, none, none, none] [] (hp g S) := by
  unfold f_X11_camera at h
  refine z_aload_n cx rfl rfl dX11_camera_0 ?_
  refine z_iload_n cx rfl rfl dX11_camera_1 ?_
  obtain ⟨v1, S2, e3, h⟩ := g_bd_ex h
  refine q_cvi (As := [.int a0]) cx mo_X11_isDr mv_X11_isDr z_cl11 rfl tb_634 (by decide) rfl (by decide) rfl rfl (Nat.le_of_ble_eq_true rfl) dX11_camera_2 (c_X11_isDr a0 _ e3) ?_
  refine q_ifb_eq (tgt := 28) cx (by decide) dX11_camera_5 (fun c4 => ?_) (fun c4 => ?_)
  · have h := g_f (Bool.eq_false_iff.mp c4) h
    refine z_ldc2 cx tb_485 dX11_camera_28 ?_
    obtain ⟨rfl, rfl⟩ := g_some h
    exact z_lreturn cx ce rfl ⟨rfl, rfl⟩ dX11_camera_31
  · have h := g_t c4 h
    refine z_iload_n cx rfl rfl dX11_camera_8 ?_
    refine z_i2l cx dX11_camera_9 ?_
    obtain ⟨v5, S6, e7, h⟩ := g_bd_ex h
    refine q_csi (As := [.long (Int32.toInt64 a1)]) cx mo_X11_isYards ms_X11_isYards tb_544 (by decide) rfl rfl (Nat.le_of_ble_eq_true rfl) dX11_camera_10 (c_X11_isYards (Int32.toInt64 a1) _ e7) ?_
    refine q_ifb_eq (tgt := 28) cx (by decide) dX11_camera_13 (fun c8 => ?_) (fun c8 => ?_)
    · have h := g_f (Bool.eq_false_iff.mp c8) h
      refine z_ldc2 cx tb_485 dX11_camera_28 ?_
      obtain ⟨rfl, rfl⟩ := g_some h
      exact z_lreturn cx ce rfl ⟨rfl, rfl⟩ dX11_camera_31
    · have h := g_t c8 h
      refine z_iload_n cx rfl rfl dX11_camera_16 ?_
      refine z_i2l cx dX11_camera_17 ?_
      refine z_lconst (v := 0) cx (by decide +kernel) dX11_camera_18 ?_
      refine z_ldc2 cx tb_484 dX11_camera_19 ?_
      obtain ⟨v9, S10, e11, h⟩ := g_bd_ex h
      refine q_csi (As := [.long (Int32.toInt64 a2), .long 0, .long 2]) cx mo_X11_within ms_X11_within tb_185 (by decide) rfl rfl (Nat.le_of_ble_eq_true rfl) dX11_camera_22 (c_X11_within (Int32.toInt64 a2) 0 2 _ e11) ?_
      refine q_ifb_ne (tgt := 32) cx (by decide) dX11_camera_25 (fun c12 => ?_) (fun c12 => ?_)
      · have h := g_t c12 h
        refine z_iload_n cx rfl rfl dX11_camera_32 ?_
        refine z_bipush (v := 64) cx (by decide +kernel) dX11_camera_33 ?_
        refine z_irem cx (by decide +kernel) dX11_camera_35 ?_
        refine z_istore (L' := [some (.ref (z_ad g 48)), some (.int a0), some (.int a1), some (.int a2), some (.int (a0 % 64)), none, none, none, none, none, none, none, none, none, none, none, none, none, none, none, none]) cx (by decide) rfl dX11_camera_36 ?_
        refine z_aload_n cx rfl rfl dX11_camera_38 ?_
        refine z_iload_n cx rfl rfl dX11_camera_39 ?_
        obtain ⟨v13, S14, e15, h⟩ := g_bd_ex h
        refine q_cvi (As := [.int a0]) cx mo_X11_asksAll mv_X11_asksAll z_cl11 rfl tb_641 (by decide) rfl (by decide) rfl rfl (Nat.le_of_ble_eq_true rfl) dX11_camera_40 (c_X11_asksAll a0 _ e15) ?_
        refine q_ifb_eq (tgt := 51) cx (by decide) dX11_camera_43 (fun c16 => ?_) (fun c16 => ?_)
        · have h := g_f (Bool.eq_false_iff.mp c16) h
          refine z_ldc2 cx tb_488 dX11_camera_51 ?_
          obtain ⟨rfl, rfl⟩ := g_some h
          exact z_lreturn cx ce rfl ⟨rfl, rfl⟩ dX11_camera_54
        · have h := g_t c16 h
          refine z_iload cx rfl dX11_camera_46 ?_
          refine z_if_ne (tgt := 55) cx (by decide) dX11_camera_48 (fun c17 => ?_) (fun c17 => ?_)
          · have h := g_f c17 h
            refine z_aload_n cx rfl rfl dX11_camera_55 ?_
            refine z_iload_n cx rfl rfl dX11_camera_56 ?_
            obtain ⟨v18, S19, e20, h⟩ := g_bd_ex h
            refine q_cvi (As := [.int a1]) cx mo_X11_backCosts mv_X11_backCosts z_cl11 rfl tb_552 (by decide) rfl (by decide) rfl rfl (Nat.le_of_ble_eq_true rfl) dX11_camera_57 (c_X11_backCosts a1 _ e20) ?_
            refine z_i2l cx dX11_camera_60 ?_
            refine z_aload_n cx rfl rfl dX11_camera_61 ?_
            refine q_getJ (k := 48) (n := 4825) cx z_cl11 (j := 25) (by decide) tb_633 rfl (by decide) rfl rfl rfl dX11_camera_62 ?_
            refine z_lmul cx dX11_camera_65 ?_
            refine z_lstore (L' := [some (.ref (z_ad g 48)), some (.int a0), some (.int a1), some (.int a2), some (.int (a0 % 64)), some (.long ((Int32.toInt64 v18) * (S19.2.1 4825))), none, none, none, none, none, none, none, none, none, none, none, none, none, none, none]) cx (by decide) rfl dX11_camera_66 ?_
            refine z_lload cx rfl dX11_camera_68 ?_
            refine z_aload_n cx rfl rfl dX11_camera_70 ?_
            refine z_iload cx rfl dX11_camera_71 ?_
            obtain ⟨v21, S22, e23, h⟩ := g_bd_ex h
            refine q_cvl (As := [.int (a0 % 64)]) cx mo_X11_staysFor mv_X11_staysFor z_cl11 rfl tb_648 (by decide) rfl (by decide) rfl rfl (Nat.le_of_ble_eq_true rfl) dX11_camera_73 (c_X11_staysFor (a0 % 64) _ e23) ?_
            obtain ⟨v24, S25, e26, h⟩ := g_bd_ex h
            refine q_csl (As := [.long ((Int32.toInt64 v18) * (S19.2.1 4825)), .long v21]) cx mo_X11_lesserOf ms_X11_lesserOf tb_652 (by decide) rfl rfl (Nat.le_of_ble_eq_true rfl) dX11_camera_76 (c_X11_lesserOf ((Int32.toInt64 v18) * (S19.2.1 4825)) v21 _ e26) ?_
            refine z_lstore (L' := [some (.ref (z_ad g 48)), some (.int a0), some (.int a1), some (.int a2), some (.int (a0 % 64)), some (.long ((Int32.toInt64 v18) * (S19.2.1 4825))), none, some (.long v24), none, none, none, none, none, none, none, none, none, none, none, none, none]) cx (by decide) rfl dX11_camera_79 ?_
            refine z_iconst (v := (-1)) cx (by decide +kernel) dX11_camera_81 ?_
            refine z_istore (L' := [some (.ref (z_ad g 48)), some (.int a0), some (.int a1), some (.int a2), some (.int (a0 % 64)), some (.long ((Int32.toInt64 v18) * (S19.2.1 4825))), none, some (.long v24), none, some (.int (-1)), none, none, none, none, none, none, none, none, none, none, none]) cx (by decide) rfl dX11_camera_82 ?_
            refine z_lconst (v := 0) cx (by decide +kernel) dX11_camera_84 ?_
            refine z_lstore (L' := [some (.ref (z_ad g 48)), some (.int a0), some (.int a1), some (.int a2), some (.int (a0 % 64)), some (.long ((Int32.toInt64 v18) * (S19.2.1 4825))), none, some (.long v24), none, some (.int (-1)), some (.long 0), none, none, none, none, none, none, none, none, none, none]) cx (by decide) rfl dX11_camera_85 ?_
            refine z_iconst (v := 0) cx (by decide +kernel) dX11_camera_87 ?_
            refine z_istore (L' := [some (.ref (z_ad g 48)), some (.int a0), some (.int a1), some (.int a2), some (.int (a0 % 64)), some (.long ((Int32.toInt64 v18) * (S19.2.1 4825))), none, some (.long v24), none, some (.int (-1)), some (.long 0), none, some (.int 0), none, none, none, none, none, none, none, none]) cx (by decide) rfl dX11_camera_88 ?_
            exact q_weak (z_wk_s (z_wk_n (z_wk_n (z_wk_s (z_wk_s (z_wk_s (z_wk_n (z_wk_s (z_wk_n (z_wk_s (z_wk_s (z_wk_n (z_wk_s (z_wk_n (z_wk_n (z_wk_n (z_wk_n (z_wk_n (z_wk_n (z_wk_n (z_wk_n (z_wk_0)))))))))))))))))))))) (t_X11_camera_90 n cx ce n a2 (a0 % 64) ((Int32.toInt64 v18) * (S19.2.1 4825)) v24 (-1) 0 0 S25 h)
          · have h := g_t c17 h
            refine z_ldc2 cx tb_488 dX11_camera_51 ?_
            obtain ⟨rfl, rfl⟩ := g_some h
            exact z_lreturn cx ce rfl ⟨rfl, rfl⟩ dX11_camera_54
      · have h := g_f (Bool.eq_false_iff.mp c12) h
        refine z_ldc2 cx tb_485 dX11_camera_28 ?_
        obtain ⟨rfl, rfl⟩ := g_some h
        exact z_lreturn cx ce rfl ⟨rfl, rfl⟩ dX11_camera_31
theorem c_X11_camera {g : z_G} {n : Nat} (a0 : Int32) (a1 : Int32) (a2 : Int32) (S : z_Stt) {v : Int64} {S' : z_Stt} (h : f_X11_camera n a0 a1 a2 S = some (v, S')) : z_Ct g M_X11_camera 4 [.ref (z_ad g 48), .int a0, .int a1, .int a2] (hp g S) (z_P g (some (.long v)) S') :=
  z_Ct.of (by decide +kernel) rfl (Nat.le_of_ble_eq_true rfl) (fun K cx ce => q_weak (L' := [some (.ref (z_ad g 48)), some (.int a0), some (.int a1), some (.int a2), none, none, none, none, none, none, none, none, none, none, none, none, none, none, none, none, none]) (z_wk_s (z_wk_s (z_wk_s (z_wk_s (z_wk_e (z_wk_e (z_wk_e (z_wk_e (z_wk_e (z_wk_e (z_wk_e (z_wk_e (z_wk_e (z_wk_e (z_wk_e (z_wk_e (z_wk_e (z_wk_e (z_wk_e (z_wk_e (z_wk_e (z_wk_0)))))))))))))))))))))) (t_X11_camera n cx ce a0 a1 a2 S h))
abbrev M_X11_two : z_M := (RX11, yX11_two, cX11_two, 9, some .long)
theorem mo_X11_two : z_mo M_X11_two 3 := ⟨tb_723, tb_5, rfl, ⟨by decide +kernel, by decide +kernel⟩, by decide +kernel, by decide⟩
theorem mv_X11_two : z_mv M_X11_two := ⟨tb_721, tb_722⟩
def f_X11_two_114 (n : Nat) (x3 : Int32) (y0 : Int32) (S : z_Stt) : Option (Int64 × z_Stt) :=
  g_bd (f_X11_partOf n (Int32.toInt64 y0) 144 x3 S) fun v1 S2 =>
  some (v1, S2)
set_option maxHeartbeats 4000000 in
set_option maxRecDepth 100000 in
theorem t_X11_two_114 {g : z_G} {K : z_K} (n : Nat) {v : Int64} {S' : z_Stt} (cx : z_C g M_X11_two 2 K) (ce : z_E' g M_X11_two (z_P g (some (.long v)) S') K) (x3 : Int32) (y0 : Int32) (S : z_Stt) (h : f_X11_two_114 n x3 y0 S = some (v, S')) : z_At g M_X11_two K 114 [none, none, none, some (.int x3), none, none, none, none, none] [.int y0] (hp g S) := by
  unfold f_X11_two_114 at h
  refine z_istore (L' := [none, none, none, some (.int x3), none, none, none, none, some (.int y0)]) cx (by decide) rfl dX11_two_114 ?_
  refine z_iload cx rfl dX11_two_116 ?_
  refine z_i2l cx dX11_two_118 ?_
  refine z_ldc2 cx tb_182 dX11_two_119 ?_
  refine z_iload_n cx rfl rfl dX11_two_122 ?_
  obtain ⟨v1, S2, e3, h⟩ := g_bd_ex h
  refine q_csl (As := [.long (Int32.toInt64 y0), .long 144, .int x3]) cx mo_X11_partOf ms_X11_partOf tb_508 (by decide) rfl rfl (Nat.le_of_ble_eq_true rfl) dX11_two_123 (c_X11_partOf (Int32.toInt64 y0) 144 x3 _ e3) ?_
  obtain ⟨rfl, rfl⟩ := g_some h
  exact z_lreturn cx ce rfl ⟨rfl, rfl⟩ dX11_two_126
def f_X11_two (n : Nat) (a0 : Int32) (a1 : Int32) (a2 : Int32) (S : z_Stt) : Option (Int64 × z_Stt) :=
  if a0 < 0 then
    some ((-9223372036854775808), S)
  else
    if 12 < a0 / 100 then
      some ((-9223372036854775808), S)
    else
      if 12 < a0 % 100 then
        some ((-9223372036854775808), S)
      else
        g_bd (f_X11_within (Int32.toInt64 a1) 0 3 S) fun v4 S5 =>
        if v4 = true then
          g_bd (f_X11_isPart a2 S5) fun v8 S9 =>
          if v8 = true then
            if a1 = 0 then
              f_X11_two_114 n a2 ((12 - (a0 / 100)) * (12 - (a0 % 100))) S9
            else
              if a1 = 1 then
                f_X11_two_114 n a2 ((144 - ((12 - (a0 / 100)) * (12 - (a0 % 100)))) - ((a0 / 100) * (a0 % 100))) S9
              else
                if a1 = 2 then
                  f_X11_two_114 n a2 ((a0 / 100) * (a0 % 100)) S9
                else
                  f_X11_two_114 n a2 (((12 - (a0 / 100)) * (12 - (a0 % 100))) + ((a0 / 100) * (a0 % 100))) S9
          else
            some ((-9223372036854775808), S9)
        else
          some ((-9223372036854775808), S5)
set_option maxHeartbeats 4000000 in
set_option maxRecDepth 100000 in
theorem t_X11_two {g : z_G} {K : z_K} (n : Nat) {v : Int64} {S' : z_Stt} (cx : z_C g M_X11_two 2 K) (ce : z_E' g M_X11_two (z_P g (some (.long v)) S') K) (a0 : Int32) (a1 : Int32) (a2 : Int32) (S : z_Stt) (h : f_X11_two n a0 a1 a2 S = some (v, S')) : z_At g M_X11_two K 0 [some (.ref (z_ad g 48)), some (.int a0), some (.int a1), some (.int a2), none, none, none, none, none] [] (hp g S) := by
  unfold f_X11_two at h
  refine z_iload_n cx rfl rfl dX11_two_0 ?_
  refine z_bipush (v := 100) cx (by decide +kernel) dX11_two_1 ?_
  refine z_idiv cx (by decide +kernel) dX11_two_3 ?_
  refine z_istore (L' := [some (.ref (z_ad g 48)), some (.int a0), some (.int a1), some (.int a2), some (.int (a0 / 100)), none, none, none, none]) cx (by decide) rfl dX11_two_4 ?_
  refine z_iload_n cx rfl rfl dX11_two_6 ?_
  refine z_bipush (v := 100) cx (by decide +kernel) dX11_two_7 ?_
  refine z_irem cx (by decide +kernel) dX11_two_9 ?_
  refine z_istore (L' := [some (.ref (z_ad g 48)), some (.int a0), some (.int a1), some (.int a2), some (.int (a0 / 100)), some (.int (a0 % 100)), none, none, none]) cx (by decide) rfl dX11_two_10 ?_
  refine z_iload_n cx rfl rfl dX11_two_12 ?_
  refine z_if_lt (tgt := 49) cx (by decide) dX11_two_13 (fun c1 => ?_) (fun c1 => ?_)
  · have h := g_t c1 h
    refine z_ldc2 cx tb_485 dX11_two_49 ?_
    obtain ⟨rfl, rfl⟩ := g_some h
    exact z_lreturn cx ce rfl ⟨rfl, rfl⟩ dX11_two_52
  · have h := g_f c1 h
    refine z_iload cx rfl dX11_two_16 ?_
    refine z_bipush (v := 12) cx (by decide +kernel) dX11_two_18 ?_
    refine z_icmp_gt (tgt := 49) cx (by decide) dX11_two_20 (fun c2 => ?_) (fun c2 => ?_)
    · have h := g_t c2 h
      refine z_ldc2 cx tb_485 dX11_two_49 ?_
      obtain ⟨rfl, rfl⟩ := g_some h
      exact z_lreturn cx ce rfl ⟨rfl, rfl⟩ dX11_two_52
    · have h := g_f c2 h
      refine z_iload cx rfl dX11_two_23 ?_
      refine z_bipush (v := 12) cx (by decide +kernel) dX11_two_25 ?_
      refine z_icmp_gt (tgt := 49) cx (by decide) dX11_two_27 (fun c3 => ?_) (fun c3 => ?_)
      · have h := g_t c3 h
        refine z_ldc2 cx tb_485 dX11_two_49 ?_
        obtain ⟨rfl, rfl⟩ := g_some h
        exact z_lreturn cx ce rfl ⟨rfl, rfl⟩ dX11_two_52
      · have h := g_f c3 h
        refine z_iload_n cx rfl rfl dX11_two_30 ?_
        refine z_i2l cx dX11_two_31 ?_
        refine z_lconst (v := 0) cx (by decide +kernel) dX11_two_32 ?_
        refine z_ldc2 cx tb_724 dX11_two_33 ?_
        obtain ⟨v4, S5, e6, h⟩ := g_bd_ex h
        refine q_csi (As := [.long (Int32.toInt64 a1), .long 0, .long 3]) cx mo_X11_within ms_X11_within tb_185 (by decide) rfl rfl (Nat.le_of_ble_eq_true rfl) dX11_two_36 (c_X11_within (Int32.toInt64 a1) 0 3 _ e6) ?_
        refine q_ifb_eq (tgt := 49) cx (by decide) dX11_two_39 (fun c7 => ?_) (fun c7 => ?_)
        · have h := g_f (Bool.eq_false_iff.mp c7) h
          refine z_ldc2 cx tb_485 dX11_two_49 ?_
          obtain ⟨rfl, rfl⟩ := g_some h
          exact z_lreturn cx ce rfl ⟨rfl, rfl⟩ dX11_two_52
        · have h := g_t c7 h
          refine z_iload_n cx rfl rfl dX11_two_42 ?_
          obtain ⟨v8, S9, e10, h⟩ := g_bd_ex h
          refine q_csi (As := [.int a2]) cx mo_X11_isPart ms_X11_isPart tb_489 (by decide) rfl rfl (Nat.le_of_ble_eq_true rfl) dX11_two_43 (c_X11_isPart a2 _ e10) ?_
          refine q_ifb_ne (tgt := 53) cx (by decide) dX11_two_46 (fun c11 => ?_) (fun c11 => ?_)
          · have h := g_t c11 h
            refine z_bipush (v := 12) cx (by decide +kernel) dX11_two_53 ?_
            refine z_iload cx rfl dX11_two_55 ?_
            refine z_isub cx dX11_two_57 ?_
            refine z_bipush (v := 12) cx (by decide +kernel) dX11_two_58 ?_
            refine z_iload cx rfl dX11_two_60 ?_
            refine z_isub cx dX11_two_62 ?_
            refine z_imul cx dX11_two_63 ?_
            refine z_istore (L' := [some (.ref (z_ad g 48)), some (.int a0), some (.int a1), some (.int a2), some (.int (a0 / 100)), some (.int (a0 % 100)), some (.int ((12 - (a0 / 100)) * (12 - (a0 % 100)))), none, none]) cx (by decide) rfl dX11_two_64 ?_
            refine z_iload cx rfl dX11_two_66 ?_
            refine z_iload cx rfl dX11_two_68 ?_
            refine z_imul cx dX11_two_70 ?_
            refine z_istore (L' := [some (.ref (z_ad g 48)), some (.int a0), some (.int a1), some (.int a2), some (.int (a0 / 100)), some (.int (a0 % 100)), some (.int ((12 - (a0 / 100)) * (12 - (a0 % 100)))), some (.int ((a0 / 100) * (a0 % 100))), none]) cx (by decide) rfl dX11_two_71 ?_
            refine z_iload_n cx rfl rfl dX11_two_73 ?_
            refine z_if_ne (tgt := 82) cx (by decide) dX11_two_74 (fun c12 => ?_) (fun c12 => ?_)
            · have h := g_f c12 h
              refine z_iload_n cx rfl rfl dX11_two_82 ?_
              refine z_iconst (v := 1) cx (by decide +kernel) dX11_two_83 ?_
              refine z_icmp_ne (tgt := 99) cx (by decide) dX11_two_84 (fun c13 => ?_) (fun c13 => ?_)
              · have h := g_f c13 h
                refine z_iload_n cx rfl rfl dX11_two_99 ?_
                refine z_iconst (v := 2) cx (by decide +kernel) dX11_two_100 ?_
                refine z_icmp_ne (tgt := 109) cx (by decide) dX11_two_101 (fun c14 => ?_) (fun c14 => ?_)
                · have h := g_f c14 h
                  refine z_iload cx rfl dX11_two_109 ?_
                  refine z_iload cx rfl dX11_two_111 ?_
                  refine z_iadd cx dX11_two_113 ?_
                  exact q_weak (z_wk_n (z_wk_n (z_wk_n (z_wk_s (z_wk_n (z_wk_n (z_wk_n (z_wk_n (z_wk_n (z_wk_0)))))))))) (t_X11_two_114 n cx ce a2 (((12 - (a0 / 100)) * (12 - (a0 % 100))) + ((a0 / 100) * (a0 % 100))) S9 h)
                · have h := g_t c14 h
                  refine z_iload cx rfl dX11_two_104 ?_
                  refine z_goto (tgt := 114) cx (by decide) dX11_two_106 ?_
                  exact q_weak (z_wk_n (z_wk_n (z_wk_n (z_wk_s (z_wk_n (z_wk_n (z_wk_n (z_wk_n (z_wk_n (z_wk_0)))))))))) (t_X11_two_114 n cx ce a2 ((a0 / 100) * (a0 % 100)) S9 h)
              · have h := g_t c13 h
                refine z_sipush (v := 144) cx (by decide +kernel) dX11_two_87 ?_
                refine z_iload cx rfl dX11_two_90 ?_
                refine z_isub cx dX11_two_92 ?_
                refine z_iload cx rfl dX11_two_93 ?_
                refine z_isub cx dX11_two_95 ?_
                refine z_goto (tgt := 114) cx (by decide) dX11_two_96 ?_
                exact q_weak (z_wk_n (z_wk_n (z_wk_n (z_wk_s (z_wk_n (z_wk_n (z_wk_n (z_wk_n (z_wk_n (z_wk_0)))))))))) (t_X11_two_114 n cx ce a2 ((144 - ((12 - (a0 / 100)) * (12 - (a0 % 100)))) - ((a0 / 100) * (a0 % 100))) S9 h)
            · have h := g_t c12 h
              refine z_iload cx rfl dX11_two_77 ?_
              refine z_goto (tgt := 114) cx (by decide) dX11_two_79 ?_
              exact q_weak (z_wk_n (z_wk_n (z_wk_n (z_wk_s (z_wk_n (z_wk_n (z_wk_n (z_wk_n (z_wk_n (z_wk_0)))))))))) (t_X11_two_114 n cx ce a2 ((12 - (a0 / 100)) * (12 - (a0 % 100))) S9 h)
          · have h := g_f (Bool.eq_false_iff.mp c11) h
            refine z_ldc2 cx tb_485 dX11_two_49 ?_
            obtain ⟨rfl, rfl⟩ := g_some h
            exact z_lreturn cx ce rfl ⟨rfl, rfl⟩ dX11_two_52
theorem c_X11_two {g : z_G} {n : Nat} (a0 : Int32) (a1 : Int32) (a2 : Int32) (S : z_Stt) {v : Int64} {S' : z_Stt} (h : f_X11_two n a0 a1 a2 S = some (v, S')) : z_Ct g M_X11_two 2 [.ref (z_ad g 48), .int a0, .int a1, .int a2] (hp g S) (z_P g (some (.long v)) S') :=
  z_Ct.of (by decide +kernel) rfl (Nat.le_of_ble_eq_true rfl) (fun K cx ce => q_weak (L' := [some (.ref (z_ad g 48)), some (.int a0), some (.int a1), some (.int a2), none, none, none, none, none]) (z_wk_s (z_wk_s (z_wk_s (z_wk_s (z_wk_e (z_wk_e (z_wk_e (z_wk_e (z_wk_e (z_wk_0)))))))))) (t_X11_two n cx ce a0 a1 a2 S h))
abbrev M_X11_yardsOf : z_M := (RX11, yX11_yardsOf, cX11_yardsOf, 3, some .int)
theorem mo_X11_yardsOf : z_mo M_X11_yardsOf 2 := ⟨tb_777, tb_5, rfl, ⟨by decide +kernel, by decide +kernel⟩, by decide +kernel, by decide⟩
theorem mv_X11_yardsOf : z_mv M_X11_yardsOf := ⟨tb_775, tb_776⟩
def f_X11_yardsOf (a0 : Int32) (a1 : Int32) (S : z_Stt) : Option (Int32 × z_Stt) :=
  if a0 = a1 then
    some (0, S)
  else
    g_bd (f_X11_wayAt a0 a1 S) fun v2 S3 =>
    if ¬ (v2 < 0 ∨ 75 ≤ v2.toNatClampNeg) then
      some (S3.2.2.1 49 v2.toNatClampNeg, S3)
    else none
set_option maxHeartbeats 4000000 in
set_option maxRecDepth 100000 in
theorem t_X11_yardsOf {g : z_G} {K : z_K} {v : Int32} {S' : z_Stt} (cx : z_C g M_X11_yardsOf 1 K) (ce : z_E' g M_X11_yardsOf (z_P g (some (.int v)) S') K) (a0 : Int32) (a1 : Int32) (S : z_Stt) (h : f_X11_yardsOf a0 a1 S = some (v, S')) : z_At g M_X11_yardsOf K 0 [some (.ref (z_ad g 48)), some (.int a0), some (.int a1)] [] (hp g S) := by
  unfold f_X11_yardsOf at h
  refine z_iload_n cx rfl rfl dX11_yardsOf_0 ?_
  refine z_iload_n cx rfl rfl dX11_yardsOf_1 ?_
  refine z_icmp_ne (tgt := 9) cx (by decide) dX11_yardsOf_2 (fun c1 => ?_) (fun c1 => ?_)
  · have h := g_f c1 h
    refine z_aload_n cx rfl rfl dX11_yardsOf_9 ?_
    refine q_getF (k := 48) (n := 49) (r := 1) cx z_cl11 (j := 0) (by decide) tb_141 rfl (by decide) rfl rfl rfl dX11_yardsOf_10 ?_
    refine z_iload_n cx rfl rfl dX11_yardsOf_13 ?_
    refine z_iload_n cx rfl rfl dX11_yardsOf_14 ?_
    obtain ⟨v2, S3, e4, h⟩ := g_bd_ex h
    refine q_csi (As := [.int a0, .int a1]) cx mo_X11_wayAt ms_X11_wayAt tb_284 (by decide) rfl rfl (Nat.le_of_ble_eq_true rfl) dX11_yardsOf_15 (c_X11_wayAt a0 a1 _ e4) ?_
    obtain ⟨c5, h⟩ := g_if h
    refine q_iald cx (by decide) rfl c5 dX11_yardsOf_18 ?_
    obtain ⟨rfl, rfl⟩ := g_some h
    exact z_ireturn cx ce rfl ⟨rfl, rfl⟩ dX11_yardsOf_19
  · have h := g_t c1 h
    refine z_iconst (v := 0) cx (by decide +kernel) dX11_yardsOf_5 ?_
    refine z_goto (tgt := 19) cx (by decide) dX11_yardsOf_6 ?_
    obtain ⟨rfl, rfl⟩ := g_some h
    exact z_ireturn cx ce rfl ⟨rfl, rfl⟩ dX11_yardsOf_19
theorem c_X11_yardsOf {g : z_G} (a0 : Int32) (a1 : Int32) (S : z_Stt) {v : Int32} {S' : z_Stt} (h : f_X11_yardsOf a0 a1 S = some (v, S')) : z_Ct g M_X11_yardsOf 1 [.ref (z_ad g 48), .int a0, .int a1] (hp g S) (z_P g (some (.int v)) S') :=
  z_Ct.of (by decide +kernel) rfl (Nat.le_of_ble_eq_true rfl) (fun K cx ce => q_weak (L' := [some (.ref (z_ad g 48)), some (.int a0), some (.int a1)]) (z_wk_s (z_wk_s (z_wk_s (z_wk_0)))) (t_X11_yardsOf cx ce a0 a1 S h))
abbrev GT_X11_ordersOn : Type := (Int32 → Int32 → Int32 → Int32 → Int32 → z_Stt → Option (Unit × z_Stt))
def HG_X11_ordersOn (g : z_G) (G : GT_X11_ordersOn) (d0 : Nat) : Prop := (∀ (a0 : Int32) (a1 : Int32) (a2 : Int32) (a3 : Int32) (a4 : Int32) (S : z_Stt) (v : Unit) (S' : z_Stt), G a0 a1 a2 a3 a4 S = some (v, S') → z_Ct g (RX11, yX11_ordersOn, cX11_ordersOn, 8, none) d0 [.ref (z_ad g 48), .int a0, .int a1, .int a2, .int a3, .int a4] (hp g S) (z_P g (none) S'))
abbrev M_X11_ordersOn : z_M := (RX11, yX11_ordersOn, cX11_ordersOn, 8, none)
theorem mo_X11_ordersOn : z_mo M_X11_ordersOn 5 := ⟨tb_773, tb_5, rfl, ⟨by decide +kernel, by decide +kernel⟩, by decide +kernel, by decide⟩
theorem mv_X11_ordersOn : z_mv M_X11_ordersOn := ⟨tb_771, tb_772⟩
def f_X11_ordersOn_125 (n : Nat) (G : GT_X11_ordersOn) (k71 : Int32 → Int32 → Int32 → Int32 → Int32 → Int32 → z_Stt → Option (Unit × z_Stt)) (x1 : Int32) (x2 : Int32) (x3 : Int32) (x4 : Int32) (x5 : Int32) (x6 : Int32) (S : z_Stt) : Option (Unit × z_Stt) :=
  k71 x1 x2 x3 x4 x5 (x6 + 1) S
set_option maxHeartbeats 4000000 in
set_option maxRecDepth 100000 in
theorem t_X11_ordersOn_125 {g : z_G} {K : z_K} (n : Nat) (G : GT_X11_ordersOn) {d0 : Nat} (hG : HG_X11_ordersOn g G d0) (hb : 1 ≤ d0) {v : Unit} {S' : z_Stt} (cx : z_C g M_X11_ordersOn (d0 + 1) K) (ce : z_E' g M_X11_ordersOn (z_P g (none) S') K) (k71 : Int32 → Int32 → Int32 → Int32 → Int32 → Int32 → z_Stt → Option (Unit × z_Stt)) (hk71 : ∀ (x1 : Int32) (x2 : Int32) (x3 : Int32) (x4 : Int32) (x5 : Int32) (x6 : Int32) (S : z_Stt), k71 x1 x2 x3 x4 x5 x6 S = some (v, S') → z_At g M_X11_ordersOn K 71 [some (.ref (z_ad g 48)), some (.int x1), some (.int x2), some (.int x3), some (.int x4), some (.int x5), some (.int x6), none] [] (hp g S)) (x1 : Int32) (x2 : Int32) (x3 : Int32) (x4 : Int32) (x5 : Int32) (x6 : Int32) (S : z_Stt) (h : f_X11_ordersOn_125 n G k71 x1 x2 x3 x4 x5 x6 S = some (v, S')) : z_At g M_X11_ordersOn K 125 [some (.ref (z_ad g 48)), some (.int x1), some (.int x2), some (.int x3), some (.int x4), some (.int x5), some (.int x6), none] [] (hp g S) := by
  unfold f_X11_ordersOn_125 at h
  refine z_iinc (c := 1) (L' := [some (.ref (z_ad g 48)), some (.int x1), some (.int x2), some (.int x3), some (.int x4), some (.int x5), some (.int (x6 + 1)), none]) cx rfl (by decide +kernel) (by decide) rfl dX11_ordersOn_125 ?_
  refine z_goto (tgt := 71) cx (by decide) dX11_ordersOn_128 ?_
  exact q_weak (z_wk_s (z_wk_s (z_wk_s (z_wk_s (z_wk_s (z_wk_s (z_wk_s (z_wk_n (z_wk_0))))))))) (hk71 x1 x2 x3 x4 x5 (x6 + 1) S h)
def f_X11_ordersOn_71 (n : Nat) (G : GT_X11_ordersOn) : Nat → Int32 → Int32 → Int32 → Int32 → Int32 → Int32 → z_Stt → Option (Unit × z_Stt)
  | 0, _, _, _, _, _, _, _ => none
  | m + 1, x1, x2, x3, x4, x5, x6, S =>
    if 6 ≤ x6 then
      some ((), S)
    else
      g_bd (f_X11_isIn x3 x6 S) fun v2 S3 =>
      if v2 = true then
        if ¬ (x4 < 0 ∨ 6 ≤ x4.toNatClampNeg) then
          g_let (sA S3 60 (upd (S3.2.2.1 60) x4.toNatClampNeg x6)) fun S7 =>
          g_bd (f_X11_yardsOf x1 x6 S7) fun v9 S10 =>
          g_bd (G x6 x2 (x3 &&& ((1 <<< (x6 &&& 31)) ^^^ (-1))) (x4 + 1) (x5 + v9) S10) fun v12 S13 =>
          f_X11_ordersOn_125 n G (f_X11_ordersOn_71 n G m) x1 x2 x3 x4 x5 x6 S13
        else none
      else
        f_X11_ordersOn_125 n G (f_X11_ordersOn_71 n G m) x1 x2 x3 x4 x5 x6 S3
set_option maxHeartbeats 4000000 in
set_option maxRecDepth 100000 in
theorem t_X11_ordersOn_71 {g : z_G} {K : z_K} (n : Nat) (G : GT_X11_ordersOn) {d0 : Nat} (hG : HG_X11_ordersOn g G d0) (hb : 1 ≤ d0) {v : Unit} {S' : z_Stt} (cx : z_C g M_X11_ordersOn (d0 + 1) K) (ce : z_E' g M_X11_ordersOn (z_P g (none) S') K) : ∀ (m : Nat) (x1 : Int32) (x2 : Int32) (x3 : Int32) (x4 : Int32) (x5 : Int32) (x6 : Int32) (S : z_Stt) (h : f_X11_ordersOn_71 n G m x1 x2 x3 x4 x5 x6 S = some (v, S')), z_At g M_X11_ordersOn K 71 [some (.ref (z_ad g 48)), some (.int x1), some (.int x2), some (.int x3), some (.int x4), some (.int x5), some (.int x6), none] [] (hp g S) := by
  intro m
  induction m with
  | zero => intro x1 x2 x3 x4 x5 x6 S h; simp [f_X11_ordersOn_71] at h
  | succ m ih =>
    intro x1 x2 x3 x4 x5 x6 S h
    rw [f_X11_ordersOn_71] at h
    refine z_iload cx rfl dX11_ordersOn_71 ?_
    refine z_bipush (v := 6) cx (by decide +kernel) dX11_ordersOn_73 ?_
    refine z_icmp_ge (tgt := 131) cx (by decide) dX11_ordersOn_75 (fun c1 => ?_) (fun c1 => ?_)
    · have h := g_t c1 h
      obtain ⟨rfl, rfl⟩ := g_some h
      exact z_return cx ce rfl ⟨rfl, rfl⟩ dX11_ordersOn_131
    · have h := g_f c1 h
      refine z_iload_n cx rfl rfl dX11_ordersOn_78 ?_
      refine z_iload cx rfl dX11_ordersOn_79 ?_
      obtain ⟨v2, S3, e4, h⟩ := g_bd_ex h
      refine q_csi (As := [.int x3, .int x6]) cx mo_X11_isIn ms_X11_isIn tb_645 (by omega) rfl rfl (Nat.le_of_ble_eq_true rfl) dX11_ordersOn_81 (c_X11_isIn x3 x6 _ e4) ?_
      refine q_ifb_eq (tgt := 125) cx (by decide) dX11_ordersOn_84 (fun c5 => ?_) (fun c5 => ?_)
      · have h := g_f (Bool.eq_false_iff.mp c5) h
        exact q_weak (z_wk_s (z_wk_s (z_wk_s (z_wk_s (z_wk_s (z_wk_s (z_wk_s (z_wk_n (z_wk_0))))))))) (t_X11_ordersOn_125 n G hG hb cx ce (f_X11_ordersOn_71 n G m) ih x1 x2 x3 x4 x5 x6 S3 h)
      · have h := g_t c5 h
        refine z_aload_n cx rfl rfl dX11_ordersOn_87 ?_
        refine q_getF (k := 48) (n := 60) (r := 12) cx z_cl11 (j := 26) (by decide) tb_153 rfl (by decide) rfl rfl rfl dX11_ordersOn_88 ?_
        refine z_iload cx rfl dX11_ordersOn_91 ?_
        refine z_iload cx rfl dX11_ordersOn_93 ?_
        obtain ⟨c6, h⟩ := g_if h
        refine q_iast cx (by decide) rfl c6 dX11_ordersOn_95 ?_
        obtain ⟨S7, e8, h⟩ := g_let_ex h
        rw [← e8]
        refine z_aload_n cx rfl rfl dX11_ordersOn_96 ?_
        refine z_iload cx rfl dX11_ordersOn_97 ?_
        refine z_iload_n cx rfl rfl dX11_ordersOn_99 ?_
        refine z_iload_n cx rfl rfl dX11_ordersOn_100 ?_
        refine z_iconst (v := 1) cx (by decide +kernel) dX11_ordersOn_101 ?_
        refine z_iload cx rfl dX11_ordersOn_102 ?_
        refine z_ishl cx dX11_ordersOn_104 ?_
        refine z_iconst (v := (-1)) cx (by decide +kernel) dX11_ordersOn_105 ?_
        refine z_ixor cx dX11_ordersOn_106 ?_
        refine z_iand cx dX11_ordersOn_107 ?_
        refine z_iload cx rfl dX11_ordersOn_108 ?_
        refine z_iconst (v := 1) cx (by decide +kernel) dX11_ordersOn_110 ?_
        refine z_iadd cx dX11_ordersOn_111 ?_
        refine z_iload cx rfl dX11_ordersOn_112 ?_
        refine z_aload_n cx rfl rfl dX11_ordersOn_114 ?_
        refine z_iload_n cx rfl rfl dX11_ordersOn_115 ?_
        refine z_iload cx rfl dX11_ordersOn_116 ?_
        obtain ⟨v9, S10, e11, h⟩ := g_bd_ex h
        refine q_cvi (As := [.int x1, .int x6]) cx mo_X11_yardsOf mv_X11_yardsOf z_cl11 rfl tb_774 (by omega) rfl (by decide) rfl rfl (Nat.le_of_ble_eq_true rfl) dX11_ordersOn_118 (c_X11_yardsOf x1 x6 _ e11) ?_
        refine z_iadd cx dX11_ordersOn_121 ?_
        obtain ⟨v12, S13, e14, h⟩ := g_bd_ex h
        refine q_cvv (As := [.int x6, .int x2, .int (x3 &&& ((1 <<< (x6 &&& 31)) ^^^ (-1))), .int (x4 + 1), .int (x5 + v9)]) cx mo_X11_ordersOn mv_X11_ordersOn z_cl11 rfl tb_770 (Nat.le_refl _) rfl (by decide) rfl rfl (Nat.le_of_ble_eq_true rfl) dX11_ordersOn_122 (hG x6 x2 (x3 &&& ((1 <<< (x6 &&& 31)) ^^^ (-1))) (x4 + 1) (x5 + v9) _ _ _ e14) ?_
        exact q_weak (z_wk_s (z_wk_s (z_wk_s (z_wk_s (z_wk_s (z_wk_s (z_wk_s (z_wk_n (z_wk_0))))))))) (t_X11_ordersOn_125 n G hG hb cx ce (f_X11_ordersOn_71 n G m) ih x1 x2 x3 x4 x5 x6 S13 h)
def f_X11_ordersOn_40 (n : Nat) (G : GT_X11_ordersOn) : Nat → Int32 → Int32 → z_Stt → Option (Unit × z_Stt)
  | 0, _, _, _ => none
  | m + 1, x4, x7, S =>
    if x4 ≤ x7 then
      some ((), S)
    else
      if ¬ (x7 < 0 ∨ 6 ≤ x7.toNatClampNeg) then
        if ¬ (x7 < 0 ∨ 6 ≤ x7.toNatClampNeg) then
          g_let (sA S 61 (upd (S.2.2.1 61) x7.toNatClampNeg (S.2.2.1 60 x7.toNatClampNeg))) fun S4 =>
          f_X11_ordersOn_40 n G m x4 (x7 + 1) S4
        else none
      else none
set_option maxHeartbeats 4000000 in
set_option maxRecDepth 100000 in
theorem t_X11_ordersOn_40 {g : z_G} {K : z_K} (n : Nat) (G : GT_X11_ordersOn) {d0 : Nat} (hG : HG_X11_ordersOn g G d0) (hb : 1 ≤ d0) {v : Unit} {S' : z_Stt} (cx : z_C g M_X11_ordersOn (d0 + 1) K) (ce : z_E' g M_X11_ordersOn (z_P g (none) S') K) : ∀ (m : Nat) (x4 : Int32) (x7 : Int32) (S : z_Stt) (h : f_X11_ordersOn_40 n G m x4 x7 S = some (v, S')), z_At g M_X11_ordersOn K 40 [some (.ref (z_ad g 48)), none, none, none, some (.int x4), none, none, some (.int x7)] [] (hp g S) := by
  intro m
  induction m with
  | zero => intro x4 x7 S h; simp [f_X11_ordersOn_40] at h
  | succ m ih =>
    intro x4 x7 S h
    rw [f_X11_ordersOn_40] at h
    refine z_iload cx rfl dX11_ordersOn_40 ?_
    refine z_iload cx rfl dX11_ordersOn_42 ?_
    refine z_icmp_ge (tgt := 67) cx (by decide) dX11_ordersOn_44 (fun c1 => ?_) (fun c1 => ?_)
    · have h := g_t c1 h
      obtain ⟨rfl, rfl⟩ := g_some h
      exact z_return cx ce rfl ⟨rfl, rfl⟩ dX11_ordersOn_67
    · have h := g_f c1 h
      refine z_aload_n cx rfl rfl dX11_ordersOn_47 ?_
      refine q_getF (k := 48) (n := 61) (r := 13) cx z_cl11 (j := 27) (by decide) tb_154 rfl (by decide) rfl rfl rfl dX11_ordersOn_48 ?_
      refine z_iload cx rfl dX11_ordersOn_51 ?_
      refine z_aload_n cx rfl rfl dX11_ordersOn_53 ?_
      refine q_getF (k := 48) (n := 60) (r := 12) cx z_cl11 (j := 26) (by decide) tb_153 rfl (by decide) rfl rfl rfl dX11_ordersOn_54 ?_
      refine z_iload cx rfl dX11_ordersOn_57 ?_
      obtain ⟨c2, h⟩ := g_if h
      refine q_iald cx (by decide) rfl c2 dX11_ordersOn_59 ?_
      obtain ⟨c3, h⟩ := g_if h
      refine q_iast cx (by decide) rfl c3 dX11_ordersOn_60 ?_
      obtain ⟨S4, e5, h⟩ := g_let_ex h
      rw [← e5]
      refine z_iinc (c := 1) (L' := [some (.ref (z_ad g 48)), none, none, none, some (.int x4), none, none, some (.int (x7 + 1))]) cx rfl (by decide +kernel) (by decide) rfl dX11_ordersOn_61 ?_
      refine z_goto (tgt := 40) cx (by decide) dX11_ordersOn_64 ?_
      exact q_weak (z_wk_s (z_wk_n (z_wk_n (z_wk_n (z_wk_s (z_wk_n (z_wk_n (z_wk_s (z_wk_0))))))))) (ih x4 (x7 + 1) S4 h)
def f_X11_ordersOn_31 (n : Nat) (G : GT_X11_ordersOn) (x4 : Int32) (x6 : Int32) (S : z_Stt) : Option (Unit × z_Stt) :=
  g_let (sI S 4828 x6) fun S1 =>
  f_X11_ordersOn_40 n G n x4 0 S1
set_option maxHeartbeats 4000000 in
set_option maxRecDepth 100000 in
theorem t_X11_ordersOn_31 {g : z_G} {K : z_K} (n : Nat) (G : GT_X11_ordersOn) {d0 : Nat} (hG : HG_X11_ordersOn g G d0) (hb : 1 ≤ d0) {v : Unit} {S' : z_Stt} (cx : z_C g M_X11_ordersOn (d0 + 1) K) (ce : z_E' g M_X11_ordersOn (z_P g (none) S') K) (x4 : Int32) (x6 : Int32) (S : z_Stt) (h : f_X11_ordersOn_31 n G x4 x6 S = some (v, S')) : z_At g M_X11_ordersOn K 31 [some (.ref (z_ad g 48)), none, none, none, some (.int x4), none, some (.int x6), none] [] (hp g S) := by
  unfold f_X11_ordersOn_31 at h
  refine z_aload_n cx rfl rfl dX11_ordersOn_31 ?_
  refine z_iload cx rfl dX11_ordersOn_32 ?_
  refine q_putI (k := 48) (n := 4828) cx z_cl11 (j := 28) (by decide) tb_769 rfl rfl rfl (by decide) rfl rfl rfl (by decide) (by decide) dX11_ordersOn_34 ?_
  obtain ⟨S1, e2, h⟩ := g_let_ex h
  rw [← e2]
  refine z_iconst (v := 0) cx (by decide +kernel) dX11_ordersOn_37 ?_
  refine z_istore (L' := [some (.ref (z_ad g 48)), none, none, none, some (.int x4), none, some (.int x6), some (.int 0)]) cx (by decide) rfl dX11_ordersOn_38 ?_
  exact q_weak (z_wk_s (z_wk_n (z_wk_n (z_wk_n (z_wk_s (z_wk_n (z_wk_n (z_wk_s (z_wk_0))))))))) (t_X11_ordersOn_40 n G hG hb cx ce n x4 0 S1 h)
def f_X11_ordersOn (n : Nat) (G : GT_X11_ordersOn) (a0 : Int32) (a1 : Int32) (a2 : Int32) (a3 : Int32) (a4 : Int32) (S : z_Stt) : Option (Unit × z_Stt) :=
  if a2 = 0 then
    g_bd (f_X11_yardsOf a0 a1 S) fun v2 S3 =>
    if S3.1 4828 < 0 then
      f_X11_ordersOn_31 n G a3 (a4 + v2) S3
    else
      if S3.1 4828 ≤ a4 + v2 then
        some ((), S3)
      else
        f_X11_ordersOn_31 n G a3 (a4 + v2) S3
  else
    f_X11_ordersOn_71 n G n a0 a1 a2 a3 a4 0 S
set_option maxHeartbeats 4000000 in
set_option maxRecDepth 100000 in
theorem t_X11_ordersOn {g : z_G} {K : z_K} (n : Nat) (G : GT_X11_ordersOn) {d0 : Nat} (hG : HG_X11_ordersOn g G d0) (hb : 1 ≤ d0) {v : Unit} {S' : z_Stt} (cx : z_C g M_X11_ordersOn (d0 + 1) K) (ce : z_E' g M_X11_ordersOn (z_P g (none) S') K) (a0 : Int32) (a1 : Int32) (a2 : Int32) (a3 : Int32) (a4 : Int32) (S : z_Stt) (h : f_X11_ordersOn n G a0 a1 a2 a3 a4 S = some (v, S')) : z_At g M_X11_ordersOn K 0 [some (.ref (z_ad g 48)), some (.int a0), some (.int a1), some (.int a2), some (.int a3), some (.int a4), none, none] [] (hp g S) := by
  unfold f_X11_ordersOn at h
  refine z_iload_n cx rfl rfl dX11_ordersOn_0 ?_
  refine z_if_ne (tgt := 68) cx (by decide) dX11_ordersOn_1 (fun c1 => ?_) (fun c1 => ?_)
  · have h := g_f c1 h
    refine z_iconst (v := 0) cx (by decide +kernel) dX11_ordersOn_68 ?_
    refine z_istore (L' := [some (.ref (z_ad g 48)), some (.int a0), some (.int a1), some (.int a2), some (.int a3), some (.int a4), some (.int 0), none]) cx (by decide) rfl dX11_ordersOn_69 ?_
    exact q_weak (z_wk_s (z_wk_s (z_wk_s (z_wk_s (z_wk_s (z_wk_s (z_wk_s (z_wk_n (z_wk_0))))))))) (t_X11_ordersOn_71 n G hG hb cx ce n a0 a1 a2 a3 a4 0 S h)
  · have h := g_t c1 h
    refine z_iload cx rfl dX11_ordersOn_4 ?_
    refine z_aload_n cx rfl rfl dX11_ordersOn_6 ?_
    refine z_iload_n cx rfl rfl dX11_ordersOn_7 ?_
    refine z_iload_n cx rfl rfl dX11_ordersOn_8 ?_
    obtain ⟨v2, S3, e4, h⟩ := g_bd_ex h
    refine q_cvi (As := [.int a0, .int a1]) cx mo_X11_yardsOf mv_X11_yardsOf z_cl11 rfl tb_774 (by omega) rfl (by decide) rfl rfl (Nat.le_of_ble_eq_true rfl) dX11_ordersOn_9 (c_X11_yardsOf a0 a1 _ e4) ?_
    refine z_iadd cx dX11_ordersOn_12 ?_
    refine z_istore (L' := [some (.ref (z_ad g 48)), some (.int a0), some (.int a1), some (.int a2), some (.int a3), some (.int a4), some (.int (a4 + v2)), none]) cx (by decide) rfl dX11_ordersOn_13 ?_
    refine z_aload_n cx rfl rfl dX11_ordersOn_15 ?_
    refine q_getI (k := 48) (n := 4828) cx z_cl11 (j := 28) (by decide) tb_769 rfl (by decide) rfl rfl rfl dX11_ordersOn_16 ?_
    refine z_if_lt (tgt := 31) cx (by decide) dX11_ordersOn_19 (fun c5 => ?_) (fun c5 => ?_)
    · have h := g_t c5 h
      exact q_weak (z_wk_s (z_wk_n (z_wk_n (z_wk_n (z_wk_s (z_wk_n (z_wk_s (z_wk_n (z_wk_0))))))))) (t_X11_ordersOn_31 n G hG hb cx ce a3 (a4 + v2) S3 h)
    · have h := g_f c5 h
      refine z_iload cx rfl dX11_ordersOn_22 ?_
      refine z_aload_n cx rfl rfl dX11_ordersOn_24 ?_
      refine q_getI (k := 48) (n := 4828) cx z_cl11 (j := 28) (by decide) tb_769 rfl (by decide) rfl rfl rfl dX11_ordersOn_25 ?_
      refine z_icmp_ge (tgt := 67) cx (by decide) dX11_ordersOn_28 (fun c6 => ?_) (fun c6 => ?_)
      · have h := g_t c6 h
        obtain ⟨rfl, rfl⟩ := g_some h
        exact z_return cx ce rfl ⟨rfl, rfl⟩ dX11_ordersOn_67
      · have h := g_f c6 h
        exact q_weak (z_wk_s (z_wk_n (z_wk_n (z_wk_n (z_wk_s (z_wk_n (z_wk_s (z_wk_n (z_wk_0))))))))) (t_X11_ordersOn_31 n G hG hb cx ce a3 (a4 + v2) S3 h)
theorem c_X11_ordersOn {g : z_G} {n : Nat} {G : GT_X11_ordersOn} {d0 : Nat} (hG : HG_X11_ordersOn g G d0) (hb : 1 ≤ d0) (a0 : Int32) (a1 : Int32) (a2 : Int32) (a3 : Int32) (a4 : Int32) (S : z_Stt) {v : Unit} {S' : z_Stt} (h : f_X11_ordersOn n G a0 a1 a2 a3 a4 S = some (v, S')) : z_Ct g M_X11_ordersOn (d0 + 1) [.ref (z_ad g 48), .int a0, .int a1, .int a2, .int a3, .int a4] (hp g S) (z_P g (none) S') :=
  z_Ct.of (by decide +kernel) rfl (Nat.le_of_ble_eq_true rfl) (fun K cx ce => q_weak (L' := [some (.ref (z_ad g 48)), some (.int a0), some (.int a1), some (.int a2), some (.int a3), some (.int a4), none, none]) (z_wk_s (z_wk_s (z_wk_s (z_wk_s (z_wk_s (z_wk_s (z_wk_e (z_wk_e (z_wk_0))))))))) (t_X11_ordersOn n G hG hb cx ce a0 a1 a2 a3 a4 S h))
def g_X11_ordersOn (n : Nat) : Nat → GT_X11_ordersOn
  | 0 => (fun _ _ _ _ _ _ => none)
  | dp + 1 => (f_X11_ordersOn n (g_X11_ordersOn n dp))
set_option maxHeartbeats 4000000 in
set_option maxRecDepth 100000 in
theorem hg_X11_ordersOn {g : z_G} {n : Nat} : ∀ dp : Nat, HG_X11_ordersOn g (g_X11_ordersOn n dp) (1 + dp) := by
  intro dp
  induction dp with
  | zero => exact (fun _ _ _ _ _ _ _ _ h => nomatch h)
  | succ dp ih => exact (fun a0 a1 a2 a3 a4 S v S' h => c_X11_ordersOn (n := n) ih (Nat.le_add_right _ _) a0 a1 a2 a3 a4 S h)
theorem cg_X11_ordersOn {g : z_G} {n : Nat} (a0 : Int32) (a1 : Int32) (a2 : Int32) (a3 : Int32) (a4 : Int32) (S : z_Stt) {v : Unit} {S' : z_Stt} (h : (g_X11_ordersOn n 64) a0 a1 a2 a3 a4 S = some (v, S')) : z_Ct g M_X11_ordersOn 65 [.ref (z_ad g 48), .int a0, .int a1, .int a2, .int a3, .int a4] (hp g S) (z_P g (none) S') := (hg_X11_ordersOn 64) a0 a1 a2 a3 a4 S _ _ h
abbrev M_X11_shortestOf : z_M := (RX11, yX11_shortestOf, cX11_shortestOf, 4, some .int)
theorem mo_X11_shortestOf : z_mo M_X11_shortestOf 3 := ⟨tb_768, tb_5, rfl, ⟨by decide +kernel, by decide +kernel⟩, by decide +kernel, by decide⟩
theorem mv_X11_shortestOf : z_mv M_X11_shortestOf := ⟨tb_766, tb_767⟩
def f_X11_shortestOf (n : Nat) (a0 : Int32) (a1 : Int32) (a2 : Int32) (S : z_Stt) : Option (Int32 × z_Stt) :=
  g_let (sI S 4828 (-1)) fun S1 =>
  g_bd ((g_X11_ordersOn n 64) a0 a1 (a2 &&& (((1 <<< (a0 &&& 31)) ||| (1 <<< (a1 &&& 31))) ^^^ (-1))) 0 0 S1) fun v3 S4 =>
  some (S4.1 4828, S4)
set_option maxHeartbeats 4000000 in
set_option maxRecDepth 100000 in
theorem t_X11_shortestOf {g : z_G} {K : z_K} (n : Nat) {v : Int32} {S' : z_Stt} (cx : z_C g M_X11_shortestOf 66 K) (ce : z_E' g M_X11_shortestOf (z_P g (some (.int v)) S') K) (a0 : Int32) (a1 : Int32) (a2 : Int32) (S : z_Stt) (h : f_X11_shortestOf n a0 a1 a2 S = some (v, S')) : z_At g M_X11_shortestOf K 0 [some (.ref (z_ad g 48)), some (.int a0), some (.int a1), some (.int a2)] [] (hp g S) := by
  unfold f_X11_shortestOf at h
  refine z_aload_n cx rfl rfl dX11_shortestOf_0 ?_
  refine z_iconst (v := (-1)) cx (by decide +kernel) dX11_shortestOf_1 ?_
  refine q_putI (k := 48) (n := 4828) cx z_cl11 (j := 28) (by decide) tb_769 rfl rfl rfl (by decide) rfl rfl rfl (by decide) (by decide) dX11_shortestOf_2 ?_
  obtain ⟨S1, e2, h⟩ := g_let_ex h
  rw [← e2]
  refine z_aload_n cx rfl rfl dX11_shortestOf_5 ?_
  refine z_iload_n cx rfl rfl dX11_shortestOf_6 ?_
  refine z_iload_n cx rfl rfl dX11_shortestOf_7 ?_
  refine z_iload_n cx rfl rfl dX11_shortestOf_8 ?_
  refine z_iconst (v := 1) cx (by decide +kernel) dX11_shortestOf_9 ?_
  refine z_iload_n cx rfl rfl dX11_shortestOf_10 ?_
  refine z_ishl cx dX11_shortestOf_11 ?_
  refine z_iconst (v := 1) cx (by decide +kernel) dX11_shortestOf_12 ?_
  refine z_iload_n cx rfl rfl dX11_shortestOf_13 ?_
  refine z_ishl cx dX11_shortestOf_14 ?_
  refine z_ior cx dX11_shortestOf_15 ?_
  refine z_iconst (v := (-1)) cx (by decide +kernel) dX11_shortestOf_16 ?_
  refine z_ixor cx dX11_shortestOf_17 ?_
  refine z_iand cx dX11_shortestOf_18 ?_
  refine z_iconst (v := 0) cx (by decide +kernel) dX11_shortestOf_19 ?_
  refine z_iconst (v := 0) cx (by decide +kernel) dX11_shortestOf_20 ?_
  obtain ⟨v3, S4, e5, h⟩ := g_bd_ex h
  refine q_cvv (As := [.int a0, .int a1, .int (a2 &&& (((1 <<< (a0 &&& 31)) ||| (1 <<< (a1 &&& 31))) ^^^ (-1))), .int 0, .int 0]) cx mo_X11_ordersOn mv_X11_ordersOn z_cl11 rfl tb_770 (by decide) rfl (by decide) rfl rfl (Nat.le_of_ble_eq_true rfl) dX11_shortestOf_21 (cg_X11_ordersOn a0 a1 (a2 &&& (((1 <<< (a0 &&& 31)) ||| (1 <<< (a1 &&& 31))) ^^^ (-1))) 0 0 _ e5) ?_
  refine z_aload_n cx rfl rfl dX11_shortestOf_24 ?_
  refine q_getI (k := 48) (n := 4828) cx z_cl11 (j := 28) (by decide) tb_769 rfl (by decide) rfl rfl rfl dX11_shortestOf_25 ?_
  obtain ⟨rfl, rfl⟩ := g_some h
  exact z_ireturn cx ce rfl ⟨rfl, rfl⟩ dX11_shortestOf_28
theorem c_X11_shortestOf {g : z_G} {n : Nat} (a0 : Int32) (a1 : Int32) (a2 : Int32) (S : z_Stt) {v : Int32} {S' : z_Stt} (h : f_X11_shortestOf n a0 a1 a2 S = some (v, S')) : z_Ct g M_X11_shortestOf 66 [.ref (z_ad g 48), .int a0, .int a1, .int a2] (hp g S) (z_P g (some (.int v)) S') :=
  z_Ct.of (by decide +kernel) rfl (Nat.le_of_ble_eq_true rfl) (fun K cx ce => q_weak (L' := [some (.ref (z_ad g 48)), some (.int a0), some (.int a1), some (.int a2)]) (z_wk_s (z_wk_s (z_wk_s (z_wk_s (z_wk_0))))) (t_X11_shortestOf n cx ce a0 a1 a2 S h))
abbrev M_X11_shortest : z_M := (RX11, yX11_shortest, cX11_shortest, 6, some .int)
theorem mo_X11_shortest : z_mo M_X11_shortest 3 := ⟨tb_763, tb_5, rfl, ⟨by decide +kernel, by decide +kernel⟩, by decide +kernel, by decide⟩
theorem mv_X11_shortest : z_mv M_X11_shortest := ⟨tb_761, tb_762⟩
def f_X11_shortest (n : Nat) (a0 : Int32) (a1 : Int32) (a2 : Int32) (S : z_Stt) : Option (Int32 × z_Stt) :=
  if a0 < 0 then
    some ((-1), S)
  else
    g_bd (f_X11_isRoom (Int32.toInt64 (a0 / 10)) S) fun v2 S3 =>
    if v2 = true then
      g_bd (f_X11_isRoom (Int32.toInt64 (a0 % 10)) S3) fun v6 S7 =>
      if v6 = true then
        g_bd (f_X11_within (Int32.toInt64 a1) 0 63 S7) fun v10 S11 =>
        if v10 = true then
          if (-1) ≤ a2 then
            g_bd (f_X11_shortestOf n (a0 / 10) (a0 % 10) a1 S11) fun v15 S16 =>
            g_bd (f_X11_bitsOf n (a1 &&& (((1 <<< ((a0 / 10) &&& 31)) ||| (1 <<< ((a0 % 10) &&& 31))) ^^^ (-1))) S16) fun v18 S19 =>
            if 0 ≤ a2 then
              if a2 = 0 then
                some (a0 / 10, S19)
              else
                if v18 < a2 then
                  if a2 = v18 + 1 then
                    some (a0 % 10, S19)
                  else
                    some ((-2), S19)
                else
                  if ¬ (a2 - 1 < 0 ∨ 6 ≤ (a2 - 1).toNatClampNeg) then
                    some (S19.2.2.1 61 (a2 - 1).toNatClampNeg, S19)
                  else none
            else
              some (v15, S19)
          else
            some ((-1), S11)
        else
          some ((-1), S11)
      else
        some ((-1), S7)
    else
      some ((-1), S3)
set_option maxHeartbeats 4000000 in
set_option maxRecDepth 100000 in
theorem t_X11_shortest {g : z_G} {K : z_K} (n : Nat) {v : Int32} {S' : z_Stt} (cx : z_C g M_X11_shortest 67 K) (ce : z_E' g M_X11_shortest (z_P g (some (.int v)) S') K) (a0 : Int32) (a1 : Int32) (a2 : Int32) (S : z_Stt) (h : f_X11_shortest n a0 a1 a2 S = some (v, S')) : z_At g M_X11_shortest K 0 [some (.ref (z_ad g 48)), some (.int a0), some (.int a1), some (.int a2), none, none] [] (hp g S) := by
  unfold f_X11_shortest at h
  refine z_iload_n cx rfl rfl dX11_shortest_0 ?_
  refine z_if_lt (tgt := 43) cx (by decide) dX11_shortest_1 (fun c1 => ?_) (fun c1 => ?_)
  · have h := g_t c1 h
    refine z_iconst (v := (-1)) cx (by decide +kernel) dX11_shortest_43 ?_
    obtain ⟨rfl, rfl⟩ := g_some h
    exact z_ireturn cx ce rfl ⟨rfl, rfl⟩ dX11_shortest_44
  · have h := g_f c1 h
    refine z_iload_n cx rfl rfl dX11_shortest_4 ?_
    refine z_bipush (v := 10) cx (by decide +kernel) dX11_shortest_5 ?_
    refine z_idiv cx (by decide +kernel) dX11_shortest_7 ?_
    refine z_i2l cx dX11_shortest_8 ?_
    obtain ⟨v2, S3, e4, h⟩ := g_bd_ex h
    refine q_csi (As := [.long (Int32.toInt64 (a0 / 10))]) cx mo_X11_isRoom ms_X11_isRoom tb_281 (by decide) rfl rfl (Nat.le_of_ble_eq_true rfl) dX11_shortest_9 (c_X11_isRoom (Int32.toInt64 (a0 / 10)) _ e4) ?_
    refine q_ifb_eq (tgt := 43) cx (by decide) dX11_shortest_12 (fun c5 => ?_) (fun c5 => ?_)
    · have h := g_f (Bool.eq_false_iff.mp c5) h
      refine z_iconst (v := (-1)) cx (by decide +kernel) dX11_shortest_43 ?_
      obtain ⟨rfl, rfl⟩ := g_some h
      exact z_ireturn cx ce rfl ⟨rfl, rfl⟩ dX11_shortest_44
    · have h := g_t c5 h
      refine z_iload_n cx rfl rfl dX11_shortest_15 ?_
      refine z_bipush (v := 10) cx (by decide +kernel) dX11_shortest_16 ?_
      refine z_irem cx (by decide +kernel) dX11_shortest_18 ?_
      refine z_i2l cx dX11_shortest_19 ?_
      obtain ⟨v6, S7, e8, h⟩ := g_bd_ex h
      refine q_csi (As := [.long (Int32.toInt64 (a0 % 10))]) cx mo_X11_isRoom ms_X11_isRoom tb_281 (by decide) rfl rfl (Nat.le_of_ble_eq_true rfl) dX11_shortest_20 (c_X11_isRoom (Int32.toInt64 (a0 % 10)) _ e8) ?_
      refine q_ifb_eq (tgt := 43) cx (by decide) dX11_shortest_23 (fun c9 => ?_) (fun c9 => ?_)
      · have h := g_f (Bool.eq_false_iff.mp c9) h
        refine z_iconst (v := (-1)) cx (by decide +kernel) dX11_shortest_43 ?_
        obtain ⟨rfl, rfl⟩ := g_some h
        exact z_ireturn cx ce rfl ⟨rfl, rfl⟩ dX11_shortest_44
      · have h := g_t c9 h
        refine z_iload_n cx rfl rfl dX11_shortest_26 ?_
        refine z_i2l cx dX11_shortest_27 ?_
        refine z_lconst (v := 0) cx (by decide +kernel) dX11_shortest_28 ?_
        refine z_ldc2 cx tb_764 dX11_shortest_29 ?_
        obtain ⟨v10, S11, e12, h⟩ := g_bd_ex h
        refine q_csi (As := [.long (Int32.toInt64 a1), .long 0, .long 63]) cx mo_X11_within ms_X11_within tb_185 (by decide) rfl rfl (Nat.le_of_ble_eq_true rfl) dX11_shortest_32 (c_X11_within (Int32.toInt64 a1) 0 63 _ e12) ?_
        refine q_ifb_eq (tgt := 43) cx (by decide) dX11_shortest_35 (fun c13 => ?_) (fun c13 => ?_)
        · have h := g_f (Bool.eq_false_iff.mp c13) h
          refine z_iconst (v := (-1)) cx (by decide +kernel) dX11_shortest_43 ?_
          obtain ⟨rfl, rfl⟩ := g_some h
          exact z_ireturn cx ce rfl ⟨rfl, rfl⟩ dX11_shortest_44
        · have h := g_t c13 h
          refine z_iload_n cx rfl rfl dX11_shortest_38 ?_
          refine z_iconst (v := (-1)) cx (by decide +kernel) dX11_shortest_39 ?_
          refine z_icmp_ge (tgt := 45) cx (by decide) dX11_shortest_40 (fun c14 => ?_) (fun c14 => ?_)
          · have h := g_t c14 h
            refine z_aload_n cx rfl rfl dX11_shortest_45 ?_
            refine z_iload_n cx rfl rfl dX11_shortest_46 ?_
            refine z_bipush (v := 10) cx (by decide +kernel) dX11_shortest_47 ?_
            refine z_idiv cx (by decide +kernel) dX11_shortest_49 ?_
            refine z_iload_n cx rfl rfl dX11_shortest_50 ?_
            refine z_bipush (v := 10) cx (by decide +kernel) dX11_shortest_51 ?_
            refine z_irem cx (by decide +kernel) dX11_shortest_53 ?_
            refine z_iload_n cx rfl rfl dX11_shortest_54 ?_
            obtain ⟨v15, S16, e17, h⟩ := g_bd_ex h
            refine q_cvi (As := [.int (a0 / 10), .int (a0 % 10), .int a1]) cx mo_X11_shortestOf mv_X11_shortestOf z_cl11 rfl tb_765 (by decide) rfl (by decide) rfl rfl (Nat.le_of_ble_eq_true rfl) dX11_shortest_55 (c_X11_shortestOf (a0 / 10) (a0 % 10) a1 _ e17) ?_
            refine z_istore (L' := [some (.ref (z_ad g 48)), some (.int a0), some (.int a1), some (.int a2), some (.int v15), none]) cx (by decide) rfl dX11_shortest_58 ?_
            refine z_iload_n cx rfl rfl dX11_shortest_60 ?_
            refine z_iconst (v := 1) cx (by decide +kernel) dX11_shortest_61 ?_
            refine z_iload_n cx rfl rfl dX11_shortest_62 ?_
            refine z_bipush (v := 10) cx (by decide +kernel) dX11_shortest_63 ?_
            refine z_idiv cx (by decide +kernel) dX11_shortest_65 ?_
            refine z_ishl cx dX11_shortest_66 ?_
            refine z_iconst (v := 1) cx (by decide +kernel) dX11_shortest_67 ?_
            refine z_iload_n cx rfl rfl dX11_shortest_68 ?_
            refine z_bipush (v := 10) cx (by decide +kernel) dX11_shortest_69 ?_
            refine z_irem cx (by decide +kernel) dX11_shortest_71 ?_
            refine z_ishl cx dX11_shortest_72 ?_
            refine z_ior cx dX11_shortest_73 ?_
            refine z_iconst (v := (-1)) cx (by decide +kernel) dX11_shortest_74 ?_
            refine z_ixor cx dX11_shortest_75 ?_
            refine z_iand cx dX11_shortest_76 ?_
            obtain ⟨v18, S19, e20, h⟩ := g_bd_ex h
            refine q_csi (As := [.int (a1 &&& (((1 <<< ((a0 / 10) &&& 31)) ||| (1 <<< ((a0 % 10) &&& 31))) ^^^ (-1)))]) cx mo_X11_bitsOf ms_X11_bitsOf tb_638 (by decide) rfl rfl (Nat.le_of_ble_eq_true rfl) dX11_shortest_77 (c_X11_bitsOf (a1 &&& (((1 <<< ((a0 / 10) &&& 31)) ||| (1 <<< ((a0 % 10) &&& 31))) ^^^ (-1))) _ e20) ?_
            refine z_istore (L' := [some (.ref (z_ad g 48)), some (.int a0), some (.int a1), some (.int a2), some (.int v15), some (.int v18)]) cx (by decide) rfl dX11_shortest_80 ?_
            refine z_iload_n cx rfl rfl dX11_shortest_82 ?_
            refine z_if_ge (tgt := 89) cx (by decide) dX11_shortest_83 (fun c21 => ?_) (fun c21 => ?_)
            · have h := g_t c21 h
              refine z_iload_n cx rfl rfl dX11_shortest_89 ?_
              refine z_if_ne (tgt := 100) cx (by decide) dX11_shortest_90 (fun c22 => ?_) (fun c22 => ?_)
              · have h := g_f c22 h
                refine z_iload_n cx rfl rfl dX11_shortest_100 ?_
                refine z_iload cx rfl dX11_shortest_101 ?_
                refine z_icmp_gt (tgt := 117) cx (by decide) dX11_shortest_103 (fun c23 => ?_) (fun c23 => ?_)
                · have h := g_t c23 h
                  refine z_iload_n cx rfl rfl dX11_shortest_117 ?_
                  refine z_iload cx rfl dX11_shortest_118 ?_
                  refine z_iconst (v := 1) cx (by decide +kernel) dX11_shortest_120 ?_
                  refine z_iadd cx dX11_shortest_121 ?_
                  refine z_icmp_ne (tgt := 132) cx (by decide) dX11_shortest_122 (fun c24 => ?_) (fun c24 => ?_)
                  · have h := g_f c24 h
                    refine z_bipush (v := (-2)) cx (by decide +kernel) dX11_shortest_132 ?_
                    obtain ⟨rfl, rfl⟩ := g_some h
                    exact z_ireturn cx ce rfl ⟨rfl, rfl⟩ dX11_shortest_134
                  · have h := g_t c24 h
                    refine z_iload_n cx rfl rfl dX11_shortest_125 ?_
                    refine z_bipush (v := 10) cx (by decide +kernel) dX11_shortest_126 ?_
                    refine z_irem cx (by decide +kernel) dX11_shortest_128 ?_
                    refine z_goto (tgt := 134) cx (by decide) dX11_shortest_129 ?_
                    obtain ⟨rfl, rfl⟩ := g_some h
                    exact z_ireturn cx ce rfl ⟨rfl, rfl⟩ dX11_shortest_134
                · have h := g_f c23 h
                  refine z_aload_n cx rfl rfl dX11_shortest_106 ?_
                  refine q_getF (k := 48) (n := 61) (r := 13) cx z_cl11 (j := 27) (by decide) tb_154 rfl (by decide) rfl rfl rfl dX11_shortest_107 ?_
                  refine z_iload_n cx rfl rfl dX11_shortest_110 ?_
                  refine z_iconst (v := 1) cx (by decide +kernel) dX11_shortest_111 ?_
                  refine z_isub cx dX11_shortest_112 ?_
                  obtain ⟨c25, h⟩ := g_if h
                  refine q_iald cx (by decide) rfl c25 dX11_shortest_113 ?_
                  refine z_goto (tgt := 134) cx (by decide) dX11_shortest_114 ?_
                  obtain ⟨rfl, rfl⟩ := g_some h
                  exact z_ireturn cx ce rfl ⟨rfl, rfl⟩ dX11_shortest_134
              · have h := g_t c22 h
                refine z_iload_n cx rfl rfl dX11_shortest_93 ?_
                refine z_bipush (v := 10) cx (by decide +kernel) dX11_shortest_94 ?_
                refine z_idiv cx (by decide +kernel) dX11_shortest_96 ?_
                refine z_goto (tgt := 134) cx (by decide) dX11_shortest_97 ?_
                obtain ⟨rfl, rfl⟩ := g_some h
                exact z_ireturn cx ce rfl ⟨rfl, rfl⟩ dX11_shortest_134
            · have h := g_f c21 h
              refine z_iload cx rfl dX11_shortest_86 ?_
              obtain ⟨rfl, rfl⟩ := g_some h
              exact z_ireturn cx ce rfl ⟨rfl, rfl⟩ dX11_shortest_88
          · have h := g_f c14 h
            refine z_iconst (v := (-1)) cx (by decide +kernel) dX11_shortest_43 ?_
            obtain ⟨rfl, rfl⟩ := g_some h
            exact z_ireturn cx ce rfl ⟨rfl, rfl⟩ dX11_shortest_44
theorem c_X11_shortest {g : z_G} {n : Nat} (a0 : Int32) (a1 : Int32) (a2 : Int32) (S : z_Stt) {v : Int32} {S' : z_Stt} (h : f_X11_shortest n a0 a1 a2 S = some (v, S')) : z_Ct g M_X11_shortest 67 [.ref (z_ad g 48), .int a0, .int a1, .int a2] (hp g S) (z_P g (some (.int v)) S') :=
  z_Ct.of (by decide +kernel) rfl (Nat.le_of_ble_eq_true rfl) (fun K cx ce => q_weak (L' := [some (.ref (z_ad g 48)), some (.int a0), some (.int a1), some (.int a2), none, none]) (z_wk_s (z_wk_s (z_wk_s (z_wk_s (z_wk_e (z_wk_e (z_wk_0))))))) (t_X11_shortest n cx ce a0 a1 a2 S h))
abbrev M_X11_bytesIs : z_M := (RX11, yX11_bytesIs, cX11_bytesIs, 2, some .int)
theorem mo_X11_bytesIs : z_mo M_X11_bytesIs 1 := ⟨tb_806, tb_5, rfl, ⟨by decide +kernel, by decide +kernel⟩, by decide +kernel, by decide⟩
theorem mv_X11_bytesIs : z_mv M_X11_bytesIs := ⟨tb_804, tb_805⟩
def f_X11_bytesIs (a0 : Int32) (S : z_Stt) : Option (Int32 × z_Stt) :=
  g_bd (f_X11_isShelf a0 S) fun v1 S2 =>
  if v1 = true then
    if ¬ (a0 < 0 ∨ 6 ≤ a0.toNatClampNeg) then
      if 0 ≤ S2.2.2.1 66 a0.toNatClampNeg then
        if ¬ (a0 < 0 ∨ 6 ≤ a0.toNatClampNeg) then
          if S2.2.2.1 66 a0.toNatClampNeg = 50 then
            some (1, S2)
          else
            some ((-12), S2)
        else none
      else
        some ((-11), S2)
    else none
  else
    some ((-1), S2)
set_option maxHeartbeats 4000000 in
set_option maxRecDepth 100000 in
theorem t_X11_bytesIs {g : z_G} {K : z_K} {v : Int32} {S' : z_Stt} (cx : z_C g M_X11_bytesIs 2 K) (ce : z_E' g M_X11_bytesIs (z_P g (some (.int v)) S') K) (a0 : Int32) (S : z_Stt) (h : f_X11_bytesIs a0 S = some (v, S')) : z_At g M_X11_bytesIs K 0 [some (.ref (z_ad g 48)), some (.int a0)] [] (hp g S) := by
  unfold f_X11_bytesIs at h
  refine z_iload_n cx rfl rfl dX11_bytesIs_0 ?_
  obtain ⟨v1, S2, e3, h⟩ := g_bd_ex h
  refine q_csi (As := [.int a0]) cx mo_X11_isShelf ms_X11_isShelf tb_222 (by decide) rfl rfl (Nat.le_of_ble_eq_true rfl) dX11_bytesIs_1 (c_X11_isShelf a0 _ e3) ?_
  refine q_ifb_ne (tgt := 11) cx (by decide) dX11_bytesIs_4 (fun c4 => ?_) (fun c4 => ?_)
  · have h := g_t c4 h
    refine z_aload_n cx rfl rfl dX11_bytesIs_11 ?_
    refine q_getF (k := 48) (n := 66) (r := 18) cx z_cl11 (j := 42) (by decide) tb_159 rfl (by decide) rfl rfl rfl dX11_bytesIs_12 ?_
    refine z_iload_n cx rfl rfl dX11_bytesIs_15 ?_
    obtain ⟨c5, h⟩ := g_if h
    refine q_iald cx (by decide) rfl c5 dX11_bytesIs_16 ?_
    refine z_if_ge (tgt := 25) cx (by decide) dX11_bytesIs_17 (fun c6 => ?_) (fun c6 => ?_)
    · have h := g_t c6 h
      refine z_aload_n cx rfl rfl dX11_bytesIs_25 ?_
      refine q_getF (k := 48) (n := 66) (r := 18) cx z_cl11 (j := 42) (by decide) tb_159 rfl (by decide) rfl rfl rfl dX11_bytesIs_26 ?_
      refine z_iload_n cx rfl rfl dX11_bytesIs_29 ?_
      obtain ⟨c7, h⟩ := g_if h
      refine q_iald cx (by decide) rfl c7 dX11_bytesIs_30 ?_
      refine z_bipush (v := 50) cx (by decide +kernel) dX11_bytesIs_31 ?_
      refine z_icmp_ne (tgt := 40) cx (by decide) dX11_bytesIs_33 (fun c8 => ?_) (fun c8 => ?_)
      · have h := g_f c8 h
        refine z_bipush (v := (-12)) cx (by decide +kernel) dX11_bytesIs_40 ?_
        obtain ⟨rfl, rfl⟩ := g_some h
        exact z_ireturn cx ce rfl ⟨rfl, rfl⟩ dX11_bytesIs_42
      · have h := g_t c8 h
        refine z_iconst (v := 1) cx (by decide +kernel) dX11_bytesIs_36 ?_
        refine z_goto (tgt := 42) cx (by decide) dX11_bytesIs_37 ?_
        obtain ⟨rfl, rfl⟩ := g_some h
        exact z_ireturn cx ce rfl ⟨rfl, rfl⟩ dX11_bytesIs_42
    · have h := g_f c6 h
      refine z_bipush (v := (-11)) cx (by decide +kernel) dX11_bytesIs_20 ?_
      refine z_goto (tgt := 42) cx (by decide) dX11_bytesIs_22 ?_
      obtain ⟨rfl, rfl⟩ := g_some h
      exact z_ireturn cx ce rfl ⟨rfl, rfl⟩ dX11_bytesIs_42
  · have h := g_f (Bool.eq_false_iff.mp c4) h
    refine z_iconst (v := (-1)) cx (by decide +kernel) dX11_bytesIs_7 ?_
    refine z_goto (tgt := 42) cx (by decide) dX11_bytesIs_8 ?_
    obtain ⟨rfl, rfl⟩ := g_some h
    exact z_ireturn cx ce rfl ⟨rfl, rfl⟩ dX11_bytesIs_42
theorem c_X11_bytesIs {g : z_G} (a0 : Int32) (S : z_Stt) {v : Int32} {S' : z_Stt} (h : f_X11_bytesIs a0 S = some (v, S')) : z_Ct g M_X11_bytesIs 2 [.ref (z_ad g 48), .int a0] (hp g S) (z_P g (some (.int v)) S') :=
  z_Ct.of (by decide +kernel) rfl (Nat.le_of_ble_eq_true rfl) (fun K cx ce => q_weak (L' := [some (.ref (z_ad g 48)), some (.int a0)]) (z_wk_s (z_wk_s (z_wk_0))) (t_X11_bytesIs cx ce a0 S h))
abbrev M_X11_length : z_M := (RX11, yX11_length, cX11_length, 8, some .int)
theorem mo_X11_length : z_mo M_X11_length 2 := ⟨tb_802, tb_5, rfl, ⟨by decide +kernel, by decide +kernel⟩, by decide +kernel, by decide⟩
theorem mv_X11_length : z_mv M_X11_length := ⟨tb_800, tb_801⟩
def f_X11_length_120 (n : Nat) (k43 : Int32 → Int32 → Int32 → Int32 → Int32 → z_Stt → Option (Int32 × z_Stt)) (x1 : Int32) (x2 : Int32) (x3 : Int32) (x5 : Int32) (y0 : Int32) (y1 : Int32) (S : z_Stt) : Option (Int32 × z_Stt) :=
  k43 x1 x2 x3 (y1 + y0) (x5 + 1) S
set_option maxHeartbeats 4000000 in
set_option maxRecDepth 100000 in
theorem t_X11_length_120 {g : z_G} {K : z_K} (n : Nat) {v : Int32} {S' : z_Stt} (cx : z_C g M_X11_length 67 K) (ce : z_E' g M_X11_length (z_P g (some (.int v)) S') K) (k43 : Int32 → Int32 → Int32 → Int32 → Int32 → z_Stt → Option (Int32 × z_Stt)) (hk43 : ∀ (x1 : Int32) (x2 : Int32) (x3 : Int32) (x4 : Int32) (x5 : Int32) (S : z_Stt), k43 x1 x2 x3 x4 x5 S = some (v, S') → z_At g M_X11_length K 43 [some (.ref (z_ad g 48)), some (.int x1), some (.int x2), some (.int x3), some (.int x4), some (.int x5), none, none] [] (hp g S)) (x1 : Int32) (x2 : Int32) (x3 : Int32) (x5 : Int32) (y0 : Int32) (y1 : Int32) (S : z_Stt) (h : f_X11_length_120 n k43 x1 x2 x3 x5 y0 y1 S = some (v, S')) : z_At g M_X11_length K 120 [some (.ref (z_ad g 48)), some (.int x1), some (.int x2), some (.int x3), none, some (.int x5), none, none] [.int y0, .int y1] (hp g S) := by
  unfold f_X11_length_120 at h
  refine z_iadd cx dX11_length_120 ?_
  refine z_istore (L' := [some (.ref (z_ad g 48)), some (.int x1), some (.int x2), some (.int x3), some (.int (y1 + y0)), some (.int x5), none, none]) cx (by decide) rfl dX11_length_121 ?_
  refine z_iinc (c := 1) (L' := [some (.ref (z_ad g 48)), some (.int x1), some (.int x2), some (.int x3), some (.int (y1 + y0)), some (.int (x5 + 1)), none, none]) cx rfl (by decide +kernel) (by decide) rfl dX11_length_123 ?_
  refine z_goto (tgt := 43) cx (by decide) dX11_length_126 ?_
  exact q_weak (z_wk_s (z_wk_s (z_wk_s (z_wk_s (z_wk_s (z_wk_s (z_wk_n (z_wk_n (z_wk_0))))))))) (hk43 x1 x2 x3 (y1 + y0) (x5 + 1) S h)
def f_X11_length_43 (n : Nat) : Nat → Int32 → Int32 → Int32 → Int32 → Int32 → z_Stt → Option (Int32 × z_Stt)
  | 0, _, _, _, _, _, _ => none
  | m + 1, x1, x2, x3, x4, x5, S =>
    if ¬ (x1 < 0 ∨ 6 ≤ x1.toNatClampNeg) then
      if S.2.2.1 67 x1.toNatClampNeg ≤ x5 then
        if ¬ (x1 < 0 ∨ 6 ≤ x1.toNatClampNeg) then
          if S.2.2.1 67 x1.toNatClampNeg = 0 then
            some ((-5), S)
          else
            if x2 = 0 then
              some (x4, S)
            else
              if ¬ (60 * x1 < 0 ∨ 360 ≤ (60 * x1).toNatClampNeg) then
                if ¬ (x1 < 0 ∨ 6 ≤ x1.toNatClampNeg) then
                  if ¬ (((60 * x1) + (S.2.2.1 67 x1.toNatClampNeg)) - 1 < 0 ∨ 360 ≤ (((60 * x1) + (S.2.2.1 67 x1.toNatClampNeg)) - 1).toNatClampNeg) then
                    g_bd (f_X11_shortestOf n (Int64.toInt32 (S.2.2.2.1 68 (60 * x1).toNatClampNeg)) (Int64.toInt32 (S.2.2.2.1 68 (((60 * x1) + (S.2.2.1 67 x1.toNatClampNeg)) - 1).toNatClampNeg)) x3 S) fun v9 S10 =>
                    some (x4 - v9, S10)
                  else none
                else none
              else none
        else none
      else
        if ¬ ((60 * x1) + x5 < 0 ∨ 360 ≤ ((60 * x1) + x5).toNatClampNeg) then
          g_bd (f_X11_isRoom (S.2.2.2.1 68 ((60 * x1) + x5).toNatClampNeg) S) fun v13 S14 =>
          if v13 = true then
            if x5 ≤ 0 then
              f_X11_length_120 n (f_X11_length_43 n m) x1 x2 (x3 ||| (1 <<< ((Int64.toInt32 (S.2.2.2.1 68 ((60 * x1) + x5).toNatClampNeg)) &&& 31))) x5 0 x4 S14
            else
              if ¬ (((60 * x1) + x5) - 1 < 0 ∨ 360 ≤ (((60 * x1) + x5) - 1).toNatClampNeg) then
                g_bd (f_X11_yardsOf (Int64.toInt32 (S14.2.2.2.1 68 (((60 * x1) + x5) - 1).toNatClampNeg)) (Int64.toInt32 (S.2.2.2.1 68 ((60 * x1) + x5).toNatClampNeg)) S14) fun v19 S20 =>
                f_X11_length_120 n (f_X11_length_43 n m) x1 x2 (x3 ||| (1 <<< ((Int64.toInt32 (S.2.2.2.1 68 ((60 * x1) + x5).toNatClampNeg)) &&& 31))) x5 v19 x4 S20
              else none
          else
            some ((-5), S14)
        else none
    else none
set_option maxHeartbeats 4000000 in
set_option maxRecDepth 100000 in
theorem t_X11_length_43 {g : z_G} {K : z_K} (n : Nat) {v : Int32} {S' : z_Stt} (cx : z_C g M_X11_length 67 K) (ce : z_E' g M_X11_length (z_P g (some (.int v)) S') K) : ∀ (m : Nat) (x1 : Int32) (x2 : Int32) (x3 : Int32) (x4 : Int32) (x5 : Int32) (S : z_Stt) (h : f_X11_length_43 n m x1 x2 x3 x4 x5 S = some (v, S')), z_At g M_X11_length K 43 [some (.ref (z_ad g 48)), some (.int x1), some (.int x2), some (.int x3), some (.int x4), some (.int x5), none, none] [] (hp g S) := by
  intro m
  induction m with
  | zero => intro x1 x2 x3 x4 x5 S h; simp [f_X11_length_43] at h
  | succ m ih =>
    intro x1 x2 x3 x4 x5 S h
    rw [f_X11_length_43] at h
    refine z_iload cx rfl dX11_length_43 ?_
    refine z_aload_n cx rfl rfl dX11_length_45 ?_
    refine q_getF (k := 48) (n := 67) (r := 19) cx z_cl11 (j := 43) (by decide) tb_160 rfl (by decide) rfl rfl rfl dX11_length_46 ?_
    refine z_iload_n cx rfl rfl dX11_length_49 ?_
    obtain ⟨c1, h⟩ := g_if h
    refine q_iald cx (by decide) rfl c1 dX11_length_50 ?_
    refine z_icmp_ge (tgt := 129) cx (by decide) dX11_length_51 (fun c2 => ?_) (fun c2 => ?_)
    · have h := g_t c2 h
      refine z_aload_n cx rfl rfl dX11_length_129 ?_
      refine q_getF (k := 48) (n := 67) (r := 19) cx z_cl11 (j := 43) (by decide) tb_160 rfl (by decide) rfl rfl rfl dX11_length_130 ?_
      refine z_iload_n cx rfl rfl dX11_length_133 ?_
      obtain ⟨c3, h⟩ := g_if h
      refine q_iald cx (by decide) rfl c3 dX11_length_134 ?_
      refine z_if_ne (tgt := 141) cx (by decide) dX11_length_135 (fun c4 => ?_) (fun c4 => ?_)
      · have h := g_f c4 h
        refine z_iload_n cx rfl rfl dX11_length_141 ?_
        refine z_if_ne (tgt := 150) cx (by decide) dX11_length_142 (fun c5 => ?_) (fun c5 => ?_)
        · have h := g_f c5 h
          refine z_iload cx rfl dX11_length_150 ?_
          refine z_aload_n cx rfl rfl dX11_length_152 ?_
          refine z_aload_n cx rfl rfl dX11_length_153 ?_
          refine q_getF (k := 48) (n := 68) (r := 20) cx z_cl11 (j := 44) (by decide) tb_161 rfl (by decide) rfl rfl rfl dX11_length_154 ?_
          refine z_bipush (v := 60) cx (by decide +kernel) dX11_length_157 ?_
          refine z_iload_n cx rfl rfl dX11_length_159 ?_
          refine z_imul cx dX11_length_160 ?_
          obtain ⟨c6, h⟩ := g_if h
          refine q_lald cx (by decide) rfl c6 dX11_length_161 ?_
          refine z_l2i cx dX11_length_162 ?_
          refine z_aload_n cx rfl rfl dX11_length_163 ?_
          refine q_getF (k := 48) (n := 68) (r := 20) cx z_cl11 (j := 44) (by decide) tb_161 rfl (by decide) rfl rfl rfl dX11_length_164 ?_
          refine z_bipush (v := 60) cx (by decide +kernel) dX11_length_167 ?_
          refine z_iload_n cx rfl rfl dX11_length_169 ?_
          refine z_imul cx dX11_length_170 ?_
          refine z_aload_n cx rfl rfl dX11_length_171 ?_
          refine q_getF (k := 48) (n := 67) (r := 19) cx z_cl11 (j := 43) (by decide) tb_160 rfl (by decide) rfl rfl rfl dX11_length_172 ?_
          refine z_iload_n cx rfl rfl dX11_length_175 ?_
          obtain ⟨c7, h⟩ := g_if h
          refine q_iald cx (by decide) rfl c7 dX11_length_176 ?_
          refine z_iadd cx dX11_length_177 ?_
          refine z_iconst (v := 1) cx (by decide +kernel) dX11_length_178 ?_
          refine z_isub cx dX11_length_179 ?_
          obtain ⟨c8, h⟩ := g_if h
          refine q_lald cx (by decide) rfl c8 dX11_length_180 ?_
          refine z_l2i cx dX11_length_181 ?_
          refine z_iload_n cx rfl rfl dX11_length_182 ?_
          obtain ⟨v9, S10, e11, h⟩ := g_bd_ex h
          refine q_cvi (As := [.int (Int64.toInt32 (S.2.2.2.1 68 (60 * x1).toNatClampNeg)), .int (Int64.toInt32 (S.2.2.2.1 68 (((60 * x1) + (S.2.2.1 67 x1.toNatClampNeg)) - 1).toNatClampNeg)), .int x3]) cx mo_X11_shortestOf mv_X11_shortestOf z_cl11 rfl tb_765 (by decide) rfl (by decide) rfl rfl (Nat.le_of_ble_eq_true rfl) dX11_length_183 (c_X11_shortestOf (Int64.toInt32 (S.2.2.2.1 68 (60 * x1).toNatClampNeg)) (Int64.toInt32 (S.2.2.2.1 68 (((60 * x1) + (S.2.2.1 67 x1.toNatClampNeg)) - 1).toNatClampNeg)) x3 _ e11) ?_
          refine z_isub cx dX11_length_186 ?_
          obtain ⟨rfl, rfl⟩ := g_some h
          exact z_ireturn cx ce rfl ⟨rfl, rfl⟩ dX11_length_187
        · have h := g_t c5 h
          refine z_iload cx rfl dX11_length_145 ?_
          refine z_goto (tgt := 187) cx (by decide) dX11_length_147 ?_
          obtain ⟨rfl, rfl⟩ := g_some h
          exact z_ireturn cx ce rfl ⟨rfl, rfl⟩ dX11_length_187
      · have h := g_t c4 h
        refine z_bipush (v := (-5)) cx (by decide +kernel) dX11_length_138 ?_
        obtain ⟨rfl, rfl⟩ := g_some h
        exact z_ireturn cx ce rfl ⟨rfl, rfl⟩ dX11_length_140
    · have h := g_f c2 h
      refine z_aload_n cx rfl rfl dX11_length_54 ?_
      refine q_getF (k := 48) (n := 68) (r := 20) cx z_cl11 (j := 44) (by decide) tb_161 rfl (by decide) rfl rfl rfl dX11_length_55 ?_
      refine z_bipush (v := 60) cx (by decide +kernel) dX11_length_58 ?_
      refine z_iload_n cx rfl rfl dX11_length_60 ?_
      refine z_imul cx dX11_length_61 ?_
      refine z_iload cx rfl dX11_length_62 ?_
      refine z_iadd cx dX11_length_64 ?_
      obtain ⟨c12, h⟩ := g_if h
      refine q_lald cx (by decide) rfl c12 dX11_length_65 ?_
      refine z_lstore (L' := [some (.ref (z_ad g 48)), some (.int x1), some (.int x2), some (.int x3), some (.int x4), some (.int x5), some (.long (S.2.2.2.1 68 ((60 * x1) + x5).toNatClampNeg)), none]) cx (by decide) rfl dX11_length_66 ?_
      refine z_lload cx rfl dX11_length_68 ?_
      obtain ⟨v13, S14, e15, h⟩ := g_bd_ex h
      refine q_csi (As := [.long (S.2.2.2.1 68 ((60 * x1) + x5).toNatClampNeg)]) cx mo_X11_isRoom ms_X11_isRoom tb_281 (by decide) rfl rfl (Nat.le_of_ble_eq_true rfl) dX11_length_70 (c_X11_isRoom (S.2.2.2.1 68 ((60 * x1) + x5).toNatClampNeg) _ e15) ?_
      refine q_ifb_ne (tgt := 79) cx (by decide) dX11_length_73 (fun c16 => ?_) (fun c16 => ?_)
      · have h := g_t c16 h
        refine z_iload_n cx rfl rfl dX11_length_79 ?_
        refine z_iconst (v := 1) cx (by decide +kernel) dX11_length_80 ?_
        refine z_lload cx rfl dX11_length_81 ?_
        refine z_l2i cx dX11_length_83 ?_
        refine z_ishl cx dX11_length_84 ?_
        refine z_ior cx dX11_length_85 ?_
        refine z_istore_n (L' := [some (.ref (z_ad g 48)), some (.int x1), some (.int x2), some (.int (x3 ||| (1 <<< ((Int64.toInt32 (S.2.2.2.1 68 ((60 * x1) + x5).toNatClampNeg)) &&& 31)))), some (.int x4), some (.int x5), some (.long (S.2.2.2.1 68 ((60 * x1) + x5).toNatClampNeg)), none]) cx rfl (by decide) rfl dX11_length_86 ?_
        refine z_iload cx rfl dX11_length_87 ?_
        refine z_iload cx rfl dX11_length_89 ?_
        refine z_if_le (tgt := 119) cx (by decide) dX11_length_91 (fun c17 => ?_) (fun c17 => ?_)
        · have h := g_t c17 h
          refine z_iconst (v := 0) cx (by decide +kernel) dX11_length_119 ?_
          exact q_weak (z_wk_s (z_wk_s (z_wk_s (z_wk_s (z_wk_n (z_wk_s (z_wk_n (z_wk_n (z_wk_0))))))))) (t_X11_length_120 n cx ce (f_X11_length_43 n m) ih x1 x2 (x3 ||| (1 <<< ((Int64.toInt32 (S.2.2.2.1 68 ((60 * x1) + x5).toNatClampNeg)) &&& 31))) x5 0 x4 S14 h)
        · have h := g_f c17 h
          refine z_aload_n cx rfl rfl dX11_length_94 ?_
          refine z_aload_n cx rfl rfl dX11_length_95 ?_
          refine q_getF (k := 48) (n := 68) (r := 20) cx z_cl11 (j := 44) (by decide) tb_161 rfl (by decide) rfl rfl rfl dX11_length_96 ?_
          refine z_bipush (v := 60) cx (by decide +kernel) dX11_length_99 ?_
          refine z_iload_n cx rfl rfl dX11_length_101 ?_
          refine z_imul cx dX11_length_102 ?_
          refine z_iload cx rfl dX11_length_103 ?_
          refine z_iadd cx dX11_length_105 ?_
          refine z_iconst (v := 1) cx (by decide +kernel) dX11_length_106 ?_
          refine z_isub cx dX11_length_107 ?_
          obtain ⟨c18, h⟩ := g_if h
          refine q_lald cx (by decide) rfl c18 dX11_length_108 ?_
          refine z_l2i cx dX11_length_109 ?_
          refine z_lload cx rfl dX11_length_110 ?_
          refine z_l2i cx dX11_length_112 ?_
          obtain ⟨v19, S20, e21, h⟩ := g_bd_ex h
          refine q_cvi (As := [.int (Int64.toInt32 (S14.2.2.2.1 68 (((60 * x1) + x5) - 1).toNatClampNeg)), .int (Int64.toInt32 (S.2.2.2.1 68 ((60 * x1) + x5).toNatClampNeg))]) cx mo_X11_yardsOf mv_X11_yardsOf z_cl11 rfl tb_774 (by decide) rfl (by decide) rfl rfl (Nat.le_of_ble_eq_true rfl) dX11_length_113 (c_X11_yardsOf (Int64.toInt32 (S14.2.2.2.1 68 (((60 * x1) + x5) - 1).toNatClampNeg)) (Int64.toInt32 (S.2.2.2.1 68 ((60 * x1) + x5).toNatClampNeg)) _ e21) ?_
          refine z_goto (tgt := 120) cx (by decide) dX11_length_116 ?_
          exact q_weak (z_wk_s (z_wk_s (z_wk_s (z_wk_s (z_wk_n (z_wk_s (z_wk_n (z_wk_n (z_wk_0))))))))) (t_X11_length_120 n cx ce (f_X11_length_43 n m) ih x1 x2 (x3 ||| (1 <<< ((Int64.toInt32 (S.2.2.2.1 68 ((60 * x1) + x5).toNatClampNeg)) &&& 31))) x5 v19 x4 S20 h)
      · have h := g_f (Bool.eq_false_iff.mp c16) h
        refine z_bipush (v := (-5)) cx (by decide +kernel) dX11_length_76 ?_
        obtain ⟨rfl, rfl⟩ := g_some h
        exact z_ireturn cx ce rfl ⟨rfl, rfl⟩ dX11_length_78
def f_X11_length (n : Nat) (a0 : Int32) (a1 : Int32) (S : z_Stt) : Option (Int32 × z_Stt) :=
  g_bd (f_X11_bytesIs a0 S) fun v1 S2 =>
  if v1 = (-1) then
    some ((-1), S2)
  else
    g_bd (f_X11_within (Int32.toInt64 a1) 0 1 S2) fun v5 S6 =>
    if v5 = true then
      g_bd (f_X11_bytesIs a0 S6) fun v9 S10 =>
      if 0 ≤ v9 then
        f_X11_length_43 n n a0 a1 0 0 0 S10
      else
        g_bd (f_X11_bytesIs a0 S10) fun v13 S14 =>
        some (v13, S14)
    else
      some ((-1), S6)
set_option maxHeartbeats 4000000 in
set_option maxRecDepth 100000 in
theorem t_X11_length {g : z_G} {K : z_K} (n : Nat) {v : Int32} {S' : z_Stt} (cx : z_C g M_X11_length 67 K) (ce : z_E' g M_X11_length (z_P g (some (.int v)) S') K) (a0 : Int32) (a1 : Int32) (S : z_Stt) (h : f_X11_length n a0 a1 S = some (v, S')) : z_At g M_X11_length K 0 [some (.ref (z_ad g 48)), some (.int a0), some (.int a1), none, none, none, none, none] [] (hp g S) := by
  unfold f_X11_length at h
  refine z_aload_n cx rfl rfl dX11_length_0 ?_
  refine z_iload_n cx rfl rfl dX11_length_1 ?_
  obtain ⟨v1, S2, e3, h⟩ := g_bd_ex h
  refine q_cvi (As := [.int a0]) cx mo_X11_bytesIs mv_X11_bytesIs z_cl11 rfl tb_803 (by decide) rfl (by decide) rfl rfl (Nat.le_of_ble_eq_true rfl) dX11_length_2 (c_X11_bytesIs a0 _ e3) ?_
  refine z_iconst (v := (-1)) cx (by decide +kernel) dX11_length_5 ?_
  refine z_icmp_eq (tgt := 19) cx (by decide) dX11_length_6 (fun c4 => ?_) (fun c4 => ?_)
  · have h := g_t c4 h
    refine z_iconst (v := (-1)) cx (by decide +kernel) dX11_length_19 ?_
    obtain ⟨rfl, rfl⟩ := g_some h
    exact z_ireturn cx ce rfl ⟨rfl, rfl⟩ dX11_length_20
  · have h := g_f c4 h
    refine z_iload_n cx rfl rfl dX11_length_9 ?_
    refine z_i2l cx dX11_length_10 ?_
    refine z_lconst (v := 0) cx (by decide +kernel) dX11_length_11 ?_
    refine z_lconst (v := 1) cx (by decide +kernel) dX11_length_12 ?_
    obtain ⟨v5, S6, e7, h⟩ := g_bd_ex h
    refine q_csi (As := [.long (Int32.toInt64 a1), .long 0, .long 1]) cx mo_X11_within ms_X11_within tb_185 (by decide) rfl rfl (Nat.le_of_ble_eq_true rfl) dX11_length_13 (c_X11_within (Int32.toInt64 a1) 0 1 _ e7) ?_
    refine q_ifb_ne (tgt := 21) cx (by decide) dX11_length_16 (fun c8 => ?_) (fun c8 => ?_)
    · have h := g_t c8 h
      refine z_aload_n cx rfl rfl dX11_length_21 ?_
      refine z_iload_n cx rfl rfl dX11_length_22 ?_
      obtain ⟨v9, S10, e11, h⟩ := g_bd_ex h
      refine q_cvi (As := [.int a0]) cx mo_X11_bytesIs mv_X11_bytesIs z_cl11 rfl tb_803 (by decide) rfl (by decide) rfl rfl (Nat.le_of_ble_eq_true rfl) dX11_length_23 (c_X11_bytesIs a0 _ e11) ?_
      refine z_if_ge (tgt := 35) cx (by decide) dX11_length_26 (fun c12 => ?_) (fun c12 => ?_)
      · have h := g_t c12 h
        refine z_iconst (v := 0) cx (by decide +kernel) dX11_length_35 ?_
        refine z_istore_n (L' := [some (.ref (z_ad g 48)), some (.int a0), some (.int a1), some (.int 0), none, none, none, none]) cx rfl (by decide) rfl dX11_length_36 ?_
        refine z_iconst (v := 0) cx (by decide +kernel) dX11_length_37 ?_
        refine z_istore (L' := [some (.ref (z_ad g 48)), some (.int a0), some (.int a1), some (.int 0), some (.int 0), none, none, none]) cx (by decide) rfl dX11_length_38 ?_
        refine z_iconst (v := 0) cx (by decide +kernel) dX11_length_40 ?_
        refine z_istore (L' := [some (.ref (z_ad g 48)), some (.int a0), some (.int a1), some (.int 0), some (.int 0), some (.int 0), none, none]) cx (by decide) rfl dX11_length_41 ?_
        exact q_weak (z_wk_s (z_wk_s (z_wk_s (z_wk_s (z_wk_s (z_wk_s (z_wk_n (z_wk_n (z_wk_0))))))))) (t_X11_length_43 n cx ce n a0 a1 0 0 0 S10 h)
      · have h := g_f c12 h
        refine z_aload_n cx rfl rfl dX11_length_29 ?_
        refine z_iload_n cx rfl rfl dX11_length_30 ?_
        obtain ⟨v13, S14, e15, h⟩ := g_bd_ex h
        refine q_cvi (As := [.int a0]) cx mo_X11_bytesIs mv_X11_bytesIs z_cl11 rfl tb_803 (by decide) rfl (by decide) rfl rfl (Nat.le_of_ble_eq_true rfl) dX11_length_31 (c_X11_bytesIs a0 _ e15) ?_
        obtain ⟨rfl, rfl⟩ := g_some h
        exact z_ireturn cx ce rfl ⟨rfl, rfl⟩ dX11_length_34
    · have h := g_f (Bool.eq_false_iff.mp c8) h
      refine z_iconst (v := (-1)) cx (by decide +kernel) dX11_length_19 ?_
      obtain ⟨rfl, rfl⟩ := g_some h
      exact z_ireturn cx ce rfl ⟨rfl, rfl⟩ dX11_length_20
theorem c_X11_length {g : z_G} {n : Nat} (a0 : Int32) (a1 : Int32) (S : z_Stt) {v : Int32} {S' : z_Stt} (h : f_X11_length n a0 a1 S = some (v, S')) : z_Ct g M_X11_length 67 [.ref (z_ad g 48), .int a0, .int a1] (hp g S) (z_P g (some (.int v)) S') :=
  z_Ct.of (by decide +kernel) rfl (Nat.le_of_ble_eq_true rfl) (fun K cx ce => q_weak (L' := [some (.ref (z_ad g 48)), some (.int a0), some (.int a1), none, none, none, none, none]) (z_wk_s (z_wk_s (z_wk_s (z_wk_e (z_wk_e (z_wk_e (z_wk_e (z_wk_e (z_wk_0))))))))) (t_X11_length n cx ce a0 a1 S h))
abbrev M_X11_list : z_M := (RX11, yX11_list, cX11_list, 8, some .long)
theorem mo_X11_list : z_mo M_X11_list 2 := ⟨tb_814, tb_5, rfl, ⟨by decide +kernel, by decide +kernel⟩, by decide +kernel, by decide⟩
theorem mv_X11_list : z_mv M_X11_list := ⟨tb_812, tb_813⟩
def f_X11_list (n : Nat) (a0 : Int32) (a1 : Int32) (S : z_Stt) : Option (Int64 × z_Stt) :=
  if a0 < 0 then
    some ((-9223372036854775808), S)
  else
    g_bd (f_X11_isThing (Int32.toInt64 (a0 / 100)) S) fun v2 S3 =>
    if v2 = true then
      if 12 < a0 % 100 then
        some ((-9223372036854775808), S3)
      else
        g_bd (f_X11_isPart a1 S3) fun v7 S8 =>
        if v7 = true then
          g_bd (f_X11_numberOf (a0 / 100) 0 S8) fun v11 S12 =>
          if lg_cmp (((Int32.toInt64 v11) * (Int32.toInt64 (a0 % 100))) + ((Int32.toInt64 (144 - v11)) * 12)) 0 = 0 then
            some ((-2), S12)
          else
            g_bd (f_X11_partOf n ((Int32.toInt64 v11) * (Int32.toInt64 (a0 % 100))) (((Int32.toInt64 v11) * (Int32.toInt64 (a0 % 100))) + ((Int32.toInt64 (144 - v11)) * 12)) a1 S12) fun v15 S16 =>
            some (v15, S16)
        else
          some ((-9223372036854775808), S8)
    else
      some ((-9223372036854775808), S3)
set_option maxHeartbeats 4000000 in
set_option maxRecDepth 100000 in
theorem t_X11_list {g : z_G} {K : z_K} (n : Nat) {v : Int64} {S' : z_Stt} (cx : z_C g M_X11_list 2 K) (ce : z_E' g M_X11_list (z_P g (some (.long v)) S') K) (a0 : Int32) (a1 : Int32) (S : z_Stt) (h : f_X11_list n a0 a1 S = some (v, S')) : z_At g M_X11_list K 0 [some (.ref (z_ad g 48)), some (.int a0), some (.int a1), none, none, none, none, none] [] (hp g S) := by
  unfold f_X11_list at h
  refine z_iload_n cx rfl rfl dX11_list_0 ?_
  refine z_if_lt (tgt := 32) cx (by decide) dX11_list_1 (fun c1 => ?_) (fun c1 => ?_)
  · have h := g_t c1 h
    refine z_ldc2 cx tb_485 dX11_list_32 ?_
    obtain ⟨rfl, rfl⟩ := g_some h
    exact z_lreturn cx ce rfl ⟨rfl, rfl⟩ dX11_list_35
  · have h := g_f c1 h
    refine z_aload_n cx rfl rfl dX11_list_4 ?_
    refine z_iload_n cx rfl rfl dX11_list_5 ?_
    refine z_bipush (v := 100) cx (by decide +kernel) dX11_list_6 ?_
    refine z_idiv cx (by decide +kernel) dX11_list_8 ?_
    refine z_i2l cx dX11_list_9 ?_
    obtain ⟨v2, S3, e4, h⟩ := g_bd_ex h
    refine q_cvi (As := [.long (Int32.toInt64 (a0 / 100))]) cx mo_X11_isThing mv_X11_isThing z_cl11 rfl tb_274 (by decide) rfl (by decide) rfl rfl (Nat.le_of_ble_eq_true rfl) dX11_list_10 (c_X11_isThing (Int32.toInt64 (a0 / 100)) _ e4) ?_
    refine q_ifb_eq (tgt := 32) cx (by decide) dX11_list_13 (fun c5 => ?_) (fun c5 => ?_)
    · have h := g_f (Bool.eq_false_iff.mp c5) h
      refine z_ldc2 cx tb_485 dX11_list_32 ?_
      obtain ⟨rfl, rfl⟩ := g_some h
      exact z_lreturn cx ce rfl ⟨rfl, rfl⟩ dX11_list_35
    · have h := g_t c5 h
      refine z_iload_n cx rfl rfl dX11_list_16 ?_
      refine z_bipush (v := 100) cx (by decide +kernel) dX11_list_17 ?_
      refine z_irem cx (by decide +kernel) dX11_list_19 ?_
      refine z_bipush (v := 12) cx (by decide +kernel) dX11_list_20 ?_
      refine z_icmp_gt (tgt := 32) cx (by decide) dX11_list_22 (fun c6 => ?_) (fun c6 => ?_)
      · have h := g_t c6 h
        refine z_ldc2 cx tb_485 dX11_list_32 ?_
        obtain ⟨rfl, rfl⟩ := g_some h
        exact z_lreturn cx ce rfl ⟨rfl, rfl⟩ dX11_list_35
      · have h := g_f c6 h
        refine z_iload_n cx rfl rfl dX11_list_25 ?_
        obtain ⟨v7, S8, e9, h⟩ := g_bd_ex h
        refine q_csi (As := [.int a1]) cx mo_X11_isPart ms_X11_isPart tb_489 (by decide) rfl rfl (Nat.le_of_ble_eq_true rfl) dX11_list_26 (c_X11_isPart a1 _ e9) ?_
        refine q_ifb_ne (tgt := 36) cx (by decide) dX11_list_29 (fun c10 => ?_) (fun c10 => ?_)
        · have h := g_t c10 h
          refine z_aload_n cx rfl rfl dX11_list_36 ?_
          refine z_iload_n cx rfl rfl dX11_list_37 ?_
          refine z_bipush (v := 100) cx (by decide +kernel) dX11_list_38 ?_
          refine z_idiv cx (by decide +kernel) dX11_list_40 ?_
          refine z_iconst (v := 0) cx (by decide +kernel) dX11_list_41 ?_
          obtain ⟨v11, S12, e13, h⟩ := g_bd_ex h
          refine q_cvi (As := [.int (a0 / 100), .int 0]) cx mo_X11_numberOf mv_X11_numberOf z_cl11 rfl tb_496 (by decide) rfl (by decide) rfl rfl (Nat.le_of_ble_eq_true rfl) dX11_list_42 (c_X11_numberOf (a0 / 100) 0 _ e13) ?_
          refine z_istore_n (L' := [some (.ref (z_ad g 48)), some (.int a0), some (.int a1), some (.int v11), none, none, none, none]) cx rfl (by decide) rfl dX11_list_45 ?_
          refine z_iload_n cx rfl rfl dX11_list_46 ?_
          refine z_i2l cx dX11_list_47 ?_
          refine z_iload_n cx rfl rfl dX11_list_48 ?_
          refine z_bipush (v := 100) cx (by decide +kernel) dX11_list_49 ?_
          refine z_irem cx (by decide +kernel) dX11_list_51 ?_
          refine z_i2l cx dX11_list_52 ?_
          refine z_lmul cx dX11_list_53 ?_
          refine z_lstore (L' := [some (.ref (z_ad g 48)), some (.int a0), some (.int a1), some (.int v11), some (.long ((Int32.toInt64 v11) * (Int32.toInt64 (a0 % 100)))), none, none, none]) cx (by decide) rfl dX11_list_54 ?_
          refine z_lload cx rfl dX11_list_56 ?_
          refine z_sipush (v := 144) cx (by decide +kernel) dX11_list_58 ?_
          refine z_iload_n cx rfl rfl dX11_list_61 ?_
          refine z_isub cx dX11_list_62 ?_
          refine z_i2l cx dX11_list_63 ?_
          refine z_ldc2 cx tb_221 dX11_list_64 ?_
          refine z_lmul cx dX11_list_67 ?_
          refine z_ladd cx dX11_list_68 ?_
          refine z_lstore (L' := [some (.ref (z_ad g 48)), some (.int a0), some (.int a1), some (.int v11), some (.long ((Int32.toInt64 v11) * (Int32.toInt64 (a0 % 100)))), none, some (.long (((Int32.toInt64 v11) * (Int32.toInt64 (a0 % 100))) + ((Int32.toInt64 (144 - v11)) * 12))), none]) cx (by decide) rfl dX11_list_69 ?_
          refine z_lload cx rfl dX11_list_71 ?_
          refine z_lconst (v := 0) cx (by decide +kernel) dX11_list_73 ?_
          refine z_lcmp cx dX11_list_74 ?_
          refine z_if_ne (tgt := 84) cx (by decide) dX11_list_75 (fun c14 => ?_) (fun c14 => ?_)
          · have h := g_f c14 h
            refine z_lload cx rfl dX11_list_84 ?_
            refine z_lload cx rfl dX11_list_86 ?_
            refine z_iload_n cx rfl rfl dX11_list_88 ?_
            obtain ⟨v15, S16, e17, h⟩ := g_bd_ex h
            refine q_csl (As := [.long ((Int32.toInt64 v11) * (Int32.toInt64 (a0 % 100))), .long (((Int32.toInt64 v11) * (Int32.toInt64 (a0 % 100))) + ((Int32.toInt64 (144 - v11)) * 12)), .int a1]) cx mo_X11_partOf ms_X11_partOf tb_508 (by decide) rfl rfl (Nat.le_of_ble_eq_true rfl) dX11_list_89 (c_X11_partOf ((Int32.toInt64 v11) * (Int32.toInt64 (a0 % 100))) (((Int32.toInt64 v11) * (Int32.toInt64 (a0 % 100))) + ((Int32.toInt64 (144 - v11)) * 12)) a1 _ e17) ?_
            obtain ⟨rfl, rfl⟩ := g_some h
            exact z_lreturn cx ce rfl ⟨rfl, rfl⟩ dX11_list_92
          · have h := g_t c14 h
            refine z_ldc2 cx tb_488 dX11_list_78 ?_
            refine z_goto (tgt := 92) cx (by decide) dX11_list_81 ?_
            obtain ⟨rfl, rfl⟩ := g_some h
            exact z_lreturn cx ce rfl ⟨rfl, rfl⟩ dX11_list_92
        · have h := g_f (Bool.eq_false_iff.mp c10) h
          refine z_ldc2 cx tb_485 dX11_list_32 ?_
          obtain ⟨rfl, rfl⟩ := g_some h
          exact z_lreturn cx ce rfl ⟨rfl, rfl⟩ dX11_list_35
theorem c_X11_list {g : z_G} {n : Nat} (a0 : Int32) (a1 : Int32) (S : z_Stt) {v : Int64} {S' : z_Stt} (h : f_X11_list n a0 a1 S = some (v, S')) : z_Ct g M_X11_list 2 [.ref (z_ad g 48), .int a0, .int a1] (hp g S) (z_P g (some (.long v)) S') :=
  z_Ct.of (by decide +kernel) rfl (Nat.le_of_ble_eq_true rfl) (fun K cx ce => q_weak (L' := [some (.ref (z_ad g 48)), some (.int a0), some (.int a1), none, none, none, none, none]) (z_wk_s (z_wk_s (z_wk_s (z_wk_e (z_wk_e (z_wk_e (z_wk_e (z_wk_e (z_wk_0))))))))) (t_X11_list n cx ce a0 a1 S h))
abbrev M_X11_ever : z_M := (RX11, yX11_ever, cX11_ever, 9, some .long)
theorem mo_X11_ever : z_mo M_X11_ever 3 := ⟨tb_822, tb_5, rfl, ⟨by decide +kernel, by decide +kernel⟩, by decide +kernel, by decide⟩
theorem mv_X11_ever : z_mv M_X11_ever := ⟨tb_820, tb_821⟩
def f_X11_ever_41 (n : Nat) : Nat → Int32 → Int32 → Int32 → Int64 → Int64 → Int32 → z_Stt → Option (Int64 × z_Stt)
  | 0, _, _, _, _, _, _, _ => none
  | m + 1, x1, x2, x3, x4, x6, x8, S =>
    if x2 ≤ x8 then
      g_bd (f_X11_partOf n (x6 - x4) x6 x3 S) fun v2 S3 =>
      some (v2, S3)
    else
      g_bd (f_X11_numberOf x1 0 S) fun v5 S6 =>
      f_X11_ever_41 n m x1 x2 x3 (x4 * (Int32.toInt64 (144 - v5))) (x6 * 144) (x8 + 1) S6
set_option maxHeartbeats 4000000 in
set_option maxRecDepth 100000 in
theorem t_X11_ever_41 {g : z_G} {K : z_K} (n : Nat) {v : Int64} {S' : z_Stt} (cx : z_C g M_X11_ever 2 K) (ce : z_E' g M_X11_ever (z_P g (some (.long v)) S') K) : ∀ (m : Nat) (x1 : Int32) (x2 : Int32) (x3 : Int32) (x4 : Int64) (x6 : Int64) (x8 : Int32) (S : z_Stt) (h : f_X11_ever_41 n m x1 x2 x3 x4 x6 x8 S = some (v, S')), z_At g M_X11_ever K 41 [some (.ref (z_ad g 48)), some (.int x1), some (.int x2), some (.int x3), some (.long x4), none, some (.long x6), none, some (.int x8)] [] (hp g S) := by
  intro m
  induction m with
  | zero => intro x1 x2 x3 x4 x6 x8 S h; simp [f_X11_ever_41] at h
  | succ m ih =>
    intro x1 x2 x3 x4 x6 x8 S h
    rw [f_X11_ever_41] at h
    refine z_iload cx rfl dX11_ever_41 ?_
    refine z_iload_n cx rfl rfl dX11_ever_43 ?_
    refine z_icmp_ge (tgt := 77) cx (by decide) dX11_ever_44 (fun c1 => ?_) (fun c1 => ?_)
    · have h := g_t c1 h
      refine z_lload cx rfl dX11_ever_77 ?_
      refine z_lload cx rfl dX11_ever_79 ?_
      refine z_lsub cx dX11_ever_81 ?_
      refine z_lload cx rfl dX11_ever_82 ?_
      refine z_iload_n cx rfl rfl dX11_ever_84 ?_
      obtain ⟨v2, S3, e4, h⟩ := g_bd_ex h
      refine q_csl (As := [.long (x6 - x4), .long x6, .int x3]) cx mo_X11_partOf ms_X11_partOf tb_508 (by decide) rfl rfl (Nat.le_of_ble_eq_true rfl) dX11_ever_85 (c_X11_partOf (x6 - x4) x6 x3 _ e4) ?_
      obtain ⟨rfl, rfl⟩ := g_some h
      exact z_lreturn cx ce rfl ⟨rfl, rfl⟩ dX11_ever_88
    · have h := g_f c1 h
      refine z_lload cx rfl dX11_ever_47 ?_
      refine z_sipush (v := 144) cx (by decide +kernel) dX11_ever_49 ?_
      refine z_aload_n cx rfl rfl dX11_ever_52 ?_
      refine z_iload_n cx rfl rfl dX11_ever_53 ?_
      refine z_iconst (v := 0) cx (by decide +kernel) dX11_ever_54 ?_
      obtain ⟨v5, S6, e7, h⟩ := g_bd_ex h
      refine q_cvi (As := [.int x1, .int 0]) cx mo_X11_numberOf mv_X11_numberOf z_cl11 rfl tb_496 (by decide) rfl (by decide) rfl rfl (Nat.le_of_ble_eq_true rfl) dX11_ever_55 (c_X11_numberOf x1 0 _ e7) ?_
      refine z_isub cx dX11_ever_58 ?_
      refine z_i2l cx dX11_ever_59 ?_
      refine z_lmul cx dX11_ever_60 ?_
      refine z_lstore (L' := [some (.ref (z_ad g 48)), some (.int x1), some (.int x2), some (.int x3), some (.long (x4 * (Int32.toInt64 (144 - v5)))), none, some (.long x6), none, some (.int x8)]) cx (by decide) rfl dX11_ever_61 ?_
      refine z_lload cx rfl dX11_ever_63 ?_
      refine z_ldc2 cx tb_182 dX11_ever_65 ?_
      refine z_lmul cx dX11_ever_68 ?_
      refine z_lstore (L' := [some (.ref (z_ad g 48)), some (.int x1), some (.int x2), some (.int x3), some (.long (x4 * (Int32.toInt64 (144 - v5)))), none, some (.long (x6 * 144)), none, some (.int x8)]) cx (by decide) rfl dX11_ever_69 ?_
      refine z_iinc (c := 1) (L' := [some (.ref (z_ad g 48)), some (.int x1), some (.int x2), some (.int x3), some (.long (x4 * (Int32.toInt64 (144 - v5)))), none, some (.long (x6 * 144)), none, some (.int (x8 + 1))]) cx rfl (by decide +kernel) (by decide) rfl dX11_ever_71 ?_
      refine z_goto (tgt := 41) cx (by decide) dX11_ever_74 ?_
      exact q_weak (z_wk_s (z_wk_s (z_wk_s (z_wk_s (z_wk_s (z_wk_n (z_wk_s (z_wk_n (z_wk_s (z_wk_0)))))))))) (ih x1 x2 x3 (x4 * (Int32.toInt64 (144 - v5))) (x6 * 144) (x8 + 1) S6 h)
def f_X11_ever (n : Nat) (a0 : Int32) (a1 : Int32) (a2 : Int32) (S : z_Stt) : Option (Int64 × z_Stt) :=
  g_bd (f_X11_isThing (Int32.toInt64 a0) S) fun v1 S2 =>
  if v1 = true then
    g_bd (f_X11_within (Int32.toInt64 a1) 0 7 S2) fun v5 S6 =>
    if v5 = true then
      g_bd (f_X11_isPart a2 S6) fun v9 S10 =>
      if v9 = true then
        f_X11_ever_41 n n a0 a1 a2 1 1 0 S10
      else
        some ((-9223372036854775808), S10)
    else
      some ((-9223372036854775808), S6)
  else
    some ((-9223372036854775808), S2)
set_option maxHeartbeats 4000000 in
set_option maxRecDepth 100000 in
theorem t_X11_ever {g : z_G} {K : z_K} (n : Nat) {v : Int64} {S' : z_Stt} (cx : z_C g M_X11_ever 2 K) (ce : z_E' g M_X11_ever (z_P g (some (.long v)) S') K) (a0 : Int32) (a1 : Int32) (a2 : Int32) (S : z_Stt) (h : f_X11_ever n a0 a1 a2 S = some (v, S')) : z_At g M_X11_ever K 0 [some (.ref (z_ad g 48)), some (.int a0), some (.int a1), some (.int a2), none, none, none, none, none] [] (hp g S) := by
  unfold f_X11_ever at h
  refine z_aload_n cx rfl rfl dX11_ever_0 ?_
  refine z_iload_n cx rfl rfl dX11_ever_1 ?_
  refine z_i2l cx dX11_ever_2 ?_
  obtain ⟨v1, S2, e3, h⟩ := g_bd_ex h
  refine q_cvi (As := [.long (Int32.toInt64 a0)]) cx mo_X11_isThing mv_X11_isThing z_cl11 rfl tb_274 (by decide) rfl (by decide) rfl rfl (Nat.le_of_ble_eq_true rfl) dX11_ever_3 (c_X11_isThing (Int32.toInt64 a0) _ e3) ?_
  refine q_ifb_eq (tgt := 28) cx (by decide) dX11_ever_6 (fun c4 => ?_) (fun c4 => ?_)
  · have h := g_f (Bool.eq_false_iff.mp c4) h
    refine z_ldc2 cx tb_485 dX11_ever_28 ?_
    obtain ⟨rfl, rfl⟩ := g_some h
    exact z_lreturn cx ce rfl ⟨rfl, rfl⟩ dX11_ever_31
  · have h := g_t c4 h
    refine z_iload_n cx rfl rfl dX11_ever_9 ?_
    refine z_i2l cx dX11_ever_10 ?_
    refine z_lconst (v := 0) cx (by decide +kernel) dX11_ever_11 ?_
    refine z_ldc2 cx tb_823 dX11_ever_12 ?_
    obtain ⟨v5, S6, e7, h⟩ := g_bd_ex h
    refine q_csi (As := [.long (Int32.toInt64 a1), .long 0, .long 7]) cx mo_X11_within ms_X11_within tb_185 (by decide) rfl rfl (Nat.le_of_ble_eq_true rfl) dX11_ever_15 (c_X11_within (Int32.toInt64 a1) 0 7 _ e7) ?_
    refine q_ifb_eq (tgt := 28) cx (by decide) dX11_ever_18 (fun c8 => ?_) (fun c8 => ?_)
    · have h := g_f (Bool.eq_false_iff.mp c8) h
      refine z_ldc2 cx tb_485 dX11_ever_28 ?_
      obtain ⟨rfl, rfl⟩ := g_some h
      exact z_lreturn cx ce rfl ⟨rfl, rfl⟩ dX11_ever_31
    · have h := g_t c8 h
      refine z_iload_n cx rfl rfl dX11_ever_21 ?_
      obtain ⟨v9, S10, e11, h⟩ := g_bd_ex h
      refine q_csi (As := [.int a2]) cx mo_X11_isPart ms_X11_isPart tb_489 (by decide) rfl rfl (Nat.le_of_ble_eq_true rfl) dX11_ever_22 (c_X11_isPart a2 _ e11) ?_
      refine q_ifb_ne (tgt := 32) cx (by decide) dX11_ever_25 (fun c12 => ?_) (fun c12 => ?_)
      · have h := g_t c12 h
        refine z_lconst (v := 1) cx (by decide +kernel) dX11_ever_32 ?_
        refine z_lstore (L' := [some (.ref (z_ad g 48)), some (.int a0), some (.int a1), some (.int a2), some (.long 1), none, none, none, none]) cx (by decide) rfl dX11_ever_33 ?_
        refine z_lconst (v := 1) cx (by decide +kernel) dX11_ever_35 ?_
        refine z_lstore (L' := [some (.ref (z_ad g 48)), some (.int a0), some (.int a1), some (.int a2), some (.long 1), none, some (.long 1), none, none]) cx (by decide) rfl dX11_ever_36 ?_
        refine z_iconst (v := 0) cx (by decide +kernel) dX11_ever_38 ?_
        refine z_istore (L' := [some (.ref (z_ad g 48)), some (.int a0), some (.int a1), some (.int a2), some (.long 1), none, some (.long 1), none, some (.int 0)]) cx (by decide) rfl dX11_ever_39 ?_
        exact q_weak (z_wk_s (z_wk_s (z_wk_s (z_wk_s (z_wk_s (z_wk_n (z_wk_s (z_wk_n (z_wk_s (z_wk_0)))))))))) (t_X11_ever_41 n cx ce n a0 a1 a2 1 1 0 S10 h)
      · have h := g_f (Bool.eq_false_iff.mp c12) h
        refine z_ldc2 cx tb_485 dX11_ever_28 ?_
        obtain ⟨rfl, rfl⟩ := g_some h
        exact z_lreturn cx ce rfl ⟨rfl, rfl⟩ dX11_ever_31
theorem c_X11_ever {g : z_G} {n : Nat} (a0 : Int32) (a1 : Int32) (a2 : Int32) (S : z_Stt) {v : Int64} {S' : z_Stt} (h : f_X11_ever n a0 a1 a2 S = some (v, S')) : z_Ct g M_X11_ever 2 [.ref (z_ad g 48), .int a0, .int a1, .int a2] (hp g S) (z_P g (some (.long v)) S') :=
  z_Ct.of (by decide +kernel) rfl (Nat.le_of_ble_eq_true rfl) (fun K cx ce => q_weak (L' := [some (.ref (z_ad g 48)), some (.int a0), some (.int a1), some (.int a2), none, none, none, none, none]) (z_wk_s (z_wk_s (z_wk_s (z_wk_s (z_wk_e (z_wk_e (z_wk_e (z_wk_e (z_wk_e (z_wk_0)))))))))) (t_X11_ever n cx ce a0 a1 a2 S h))
abbrev M_X11_draws : z_M := (RX11, yX11_draws, cX11_draws, 2, some .int)
theorem mo_X11_draws : z_mo M_X11_draws 1 := ⟨tb_877, tb_5, rfl, ⟨by decide +kernel, by decide +kernel⟩, by decide +kernel, by decide⟩
theorem mv_X11_draws : z_mv M_X11_draws := ⟨tb_875, tb_876⟩
def f_X11_draws (a0 : Int32) (S : z_Stt) : Option (Int32 × z_Stt) :=
  g_let (sI S 4829 (((S.1 4829) * 1103515245) + 12345)) fun S1 =>
  if ¬ a0 = 0 then
    some ((((S1.1 4829).toUInt32 >>> (Int32.toUInt32 8 &&& Int32.toUInt32 31)).toInt32) % a0, S1)
  else none
set_option maxHeartbeats 4000000 in
set_option maxRecDepth 100000 in
theorem t_X11_draws {g : z_G} {K : z_K} {v : Int32} {S' : z_Stt} (cx : z_C g M_X11_draws 0 K) (ce : z_E' g M_X11_draws (z_P g (some (.int v)) S') K) (a0 : Int32) (S : z_Stt) (h : f_X11_draws a0 S = some (v, S')) : z_At g M_X11_draws K 0 [some (.ref (z_ad g 48)), some (.int a0)] [] (hp g S) := by
  unfold f_X11_draws at h
  refine z_aload_n cx rfl rfl dX11_draws_0 ?_
  refine z_aload_n cx rfl rfl dX11_draws_1 ?_
  refine q_getI (k := 48) (n := 4829) cx z_cl11 (j := 29) (by decide) tb_873 rfl (by decide) rfl rfl rfl dX11_draws_2 ?_
  refine z_ldcw cx tb_878 dX11_draws_5 ?_
  refine z_imul cx dX11_draws_8 ?_
  refine z_sipush (v := 12345) cx (by decide +kernel) dX11_draws_9 ?_
  refine z_iadd cx dX11_draws_12 ?_
  refine q_putI (k := 48) (n := 4829) cx z_cl11 (j := 29) (by decide) tb_873 rfl rfl rfl (by decide) rfl rfl rfl (by decide) (by decide) dX11_draws_13 ?_
  obtain ⟨S1, e2, h⟩ := g_let_ex h
  rw [← e2]
  refine z_aload_n cx rfl rfl dX11_draws_16 ?_
  refine q_getI (k := 48) (n := 4829) cx z_cl11 (j := 29) (by decide) tb_873 rfl (by decide) rfl rfl rfl dX11_draws_17 ?_
  refine z_bipush (v := 8) cx (by decide +kernel) dX11_draws_20 ?_
  refine z_iushr cx rfl dX11_draws_22 ?_
  refine z_iload_n cx rfl rfl dX11_draws_23 ?_
  obtain ⟨c3, h⟩ := g_if h
  refine z_irem cx c3 dX11_draws_24 ?_
  obtain ⟨rfl, rfl⟩ := g_some h
  exact z_ireturn cx ce rfl ⟨rfl, rfl⟩ dX11_draws_25
theorem c_X11_draws {g : z_G} (a0 : Int32) (S : z_Stt) {v : Int32} {S' : z_Stt} (h : f_X11_draws a0 S = some (v, S')) : z_Ct g M_X11_draws 0 [.ref (z_ad g 48), .int a0] (hp g S) (z_P g (some (.int v)) S') :=
  z_Ct.of (by decide +kernel) rfl (Nat.le_of_ble_eq_true rfl) (fun K cx ce => q_weak (L' := [some (.ref (z_ad g 48)), some (.int a0)]) (z_wk_s (z_wk_s (z_wk_0))) (t_X11_draws cx ce a0 S h))
abbrev M_X11_goesBack : z_M := (RX11, yX11_goesBack, cX11_goesBack, 5, some .boolean)
theorem mo_X11_goesBack : z_mo M_X11_goesBack 4 := ⟨tb_882, tb_5, rfl, ⟨by decide +kernel, by decide +kernel⟩, by decide +kernel, by decide⟩
theorem mv_X11_goesBack : z_mv M_X11_goesBack := ⟨tb_880, tb_881⟩
def f_X11_goesBack (n : Nat) (a0 : Int32) (a1 : Int32) (a2 : Int32) (a3 : Int32) (S : z_Stt) : Option (Bool × z_Stt) :=
  if a0 = 0 then
    some (false, S)
  else if a0 = 1 then
    some (true, S)
  else if a0 = 2 then
    if a2 = 0 then
      some (true, S)
    else
      some (false, S)
  else if a0 = 3 then
    g_bd (f_X11_worthWays ((10 * a1) + a2) a3 S) fun v6 S7 =>
    if lg_cmp v6 0 ≤ 0 then
      some (false, S7)
    else
      if lg_cmp (S7.2.1 4812) 0 ≤ 0 then
        some (false, S7)
      else
        some (true, S7)
  else 
    g_bd (f_X11_partsOf a1 a2 S) fun v11 S12 =>
    g_bd (f_X11_numberOf a1 3 S12) fun v14 S15 =>
    g_bd (f_X11_goesBy n v11 v14 a3 1 S15) fun v17 S18 =>
    some (v17, S18)
set_option maxHeartbeats 4000000 in
set_option maxRecDepth 100000 in
theorem t_X11_goesBack {g : z_G} {K : z_K} (n : Nat) {v : Bool} {S' : z_Stt} (cx : z_C g M_X11_goesBack 68 K) (ce : z_E' g M_X11_goesBack (z_P g (some (.int (bI v))) S') K) (a0 : Int32) (a1 : Int32) (a2 : Int32) (a3 : Int32) (S : z_Stt) (h : f_X11_goesBack n a0 a1 a2 a3 S = some (v, S')) : z_At g M_X11_goesBack K 0 [some (.ref (z_ad g 48)), some (.int a0), some (.int a1), some (.int a2), some (.int a3)] [] (hp g S) := by
  unfold f_X11_goesBack at h
  refine z_iload_n cx rfl rfl dX11_goesBack_0 ?_
  by_cases c1 : a0 = 0
  · have h := g_t c1 h
    refine z_tableIn (tgt := 32) (off := 31) cx (by rw [c1]; decide +kernel) (by rw [c1]; decide +kernel) (by rw [c1]; decide +kernel) (by decide) dX11_goesBack_1 ?_
    refine z_iconst (v := 0) cx (by decide +kernel) dX11_goesBack_32 ?_
    obtain ⟨rfl, rfl⟩ := g_some h
    exact z_zreturn cx ce rfl (by decide +kernel) ⟨rfl, rfl⟩ dX11_goesBack_33
  have h := g_f c1 h
  by_cases c2 : a0 = 1
  · have h := g_t c2 h
    refine z_tableIn (tgt := 34) (off := 33) cx (by rw [c2]; decide +kernel) (by rw [c2]; decide +kernel) (by rw [c2]; decide +kernel) (by decide) dX11_goesBack_1 ?_
    refine z_iconst (v := 1) cx (by decide +kernel) dX11_goesBack_34 ?_
    obtain ⟨rfl, rfl⟩ := g_some h
    exact z_zreturn cx ce rfl (by decide +kernel) ⟨rfl, rfl⟩ dX11_goesBack_35
  have h := g_f c2 h
  by_cases c3 : a0 = 2
  · have h := g_t c3 h
    refine z_tableIn (tgt := 36) (off := 35) cx (by rw [c3]; decide +kernel) (by rw [c3]; decide +kernel) (by rw [c3]; decide +kernel) (by decide) dX11_goesBack_1 ?_
    refine z_iload_n cx rfl rfl dX11_goesBack_36 ?_
    refine z_if_ne (tgt := 44) cx (by decide) dX11_goesBack_37 (fun c4 => ?_) (fun c4 => ?_)
    · have h := g_f c4 h
      refine z_iconst (v := 0) cx (by decide +kernel) dX11_goesBack_44 ?_
      obtain ⟨rfl, rfl⟩ := g_some h
      exact z_zreturn cx ce rfl (by decide +kernel) ⟨rfl, rfl⟩ dX11_goesBack_45
    · have h := g_t c4 h
      refine z_iconst (v := 1) cx (by decide +kernel) dX11_goesBack_40 ?_
      refine z_goto (tgt := 45) cx (by decide) dX11_goesBack_41 ?_
      obtain ⟨rfl, rfl⟩ := g_some h
      exact z_zreturn cx ce rfl (by decide +kernel) ⟨rfl, rfl⟩ dX11_goesBack_45
  have h := g_f c3 h
  by_cases c5 : a0 = 3
  · have h := g_t c5 h
    refine z_tableIn (tgt := 46) (off := 45) cx (by rw [c5]; decide +kernel) (by rw [c5]; decide +kernel) (by rw [c5]; decide +kernel) (by decide) dX11_goesBack_1 ?_
    refine z_aload_n cx rfl rfl dX11_goesBack_46 ?_
    refine z_bipush (v := 10) cx (by decide +kernel) dX11_goesBack_47 ?_
    refine z_iload_n cx rfl rfl dX11_goesBack_49 ?_
    refine z_imul cx dX11_goesBack_50 ?_
    refine z_iload_n cx rfl rfl dX11_goesBack_51 ?_
    refine z_iadd cx dX11_goesBack_52 ?_
    refine z_iload cx rfl dX11_goesBack_53 ?_
    obtain ⟨v6, S7, e8, h⟩ := g_bd_ex h
    refine q_cvl (As := [.int ((10 * a1) + a2), .int a3]) cx mo_X11_worthWays mv_X11_worthWays z_cl11 rfl tb_548 (by decide) rfl (by decide) rfl rfl (Nat.le_of_ble_eq_true rfl) dX11_goesBack_55 (c_X11_worthWays ((10 * a1) + a2) a3 _ e8) ?_
    refine z_lconst (v := 0) cx (by decide +kernel) dX11_goesBack_58 ?_
    refine z_lcmp cx dX11_goesBack_59 ?_
    refine z_if_le (tgt := 76) cx (by decide) dX11_goesBack_60 (fun c9 => ?_) (fun c9 => ?_)
    · have h := g_t c9 h
      refine z_iconst (v := 0) cx (by decide +kernel) dX11_goesBack_76 ?_
      obtain ⟨rfl, rfl⟩ := g_some h
      exact z_zreturn cx ce rfl (by decide +kernel) ⟨rfl, rfl⟩ dX11_goesBack_77
    · have h := g_f c9 h
      refine z_aload_n cx rfl rfl dX11_goesBack_63 ?_
      refine q_getJ (k := 48) (n := 4812) cx z_cl11 (j := 12) (by decide) tb_487 rfl (by decide) rfl rfl rfl dX11_goesBack_64 ?_
      refine z_lconst (v := 0) cx (by decide +kernel) dX11_goesBack_67 ?_
      refine z_lcmp cx dX11_goesBack_68 ?_
      refine z_if_le (tgt := 76) cx (by decide) dX11_goesBack_69 (fun c10 => ?_) (fun c10 => ?_)
      · have h := g_t c10 h
        refine z_iconst (v := 0) cx (by decide +kernel) dX11_goesBack_76 ?_
        obtain ⟨rfl, rfl⟩ := g_some h
        exact z_zreturn cx ce rfl (by decide +kernel) ⟨rfl, rfl⟩ dX11_goesBack_77
      · have h := g_f c10 h
        refine z_iconst (v := 1) cx (by decide +kernel) dX11_goesBack_72 ?_
        refine z_goto (tgt := 77) cx (by decide) dX11_goesBack_73 ?_
        obtain ⟨rfl, rfl⟩ := g_some h
        exact z_zreturn cx ce rfl (by decide +kernel) ⟨rfl, rfl⟩ dX11_goesBack_77
  have h := g_f c5 h
  refine q_tableD (tgt := 78) (lo := 0) (hi := 3) cx [0, 1, 2, 3] (by decide +kernel) (by intro a ha; simp only [List.mem_cons, List.not_mem_nil, or_false] at ha; rcases ha with rfl | rfl | rfl | rfl <;> assumption) (by decide) dX11_goesBack_1 ?_
  refine z_aload_n cx rfl rfl dX11_goesBack_78 ?_
  refine z_aload_n cx rfl rfl dX11_goesBack_79 ?_
  refine z_iload_n cx rfl rfl dX11_goesBack_80 ?_
  refine z_iload_n cx rfl rfl dX11_goesBack_81 ?_
  obtain ⟨v11, S12, e13, h⟩ := g_bd_ex h
  refine q_cvi (As := [.int a1, .int a2]) cx mo_X11_partsOf mv_X11_partsOf z_cl11 rfl tb_883 (by decide) rfl (by decide) rfl rfl (Nat.le_of_ble_eq_true rfl) dX11_goesBack_82 (c_X11_partsOf a1 a2 _ e13) ?_
  refine z_aload_n cx rfl rfl dX11_goesBack_85 ?_
  refine z_iload_n cx rfl rfl dX11_goesBack_86 ?_
  refine z_iconst (v := 3) cx (by decide +kernel) dX11_goesBack_87 ?_
  obtain ⟨v14, S15, e16, h⟩ := g_bd_ex h
  refine q_cvi (As := [.int a1, .int 3]) cx mo_X11_numberOf mv_X11_numberOf z_cl11 rfl tb_496 (by decide) rfl (by decide) rfl rfl (Nat.le_of_ble_eq_true rfl) dX11_goesBack_88 (c_X11_numberOf a1 3 _ e16) ?_
  refine z_iload cx rfl dX11_goesBack_91 ?_
  refine z_iconst (v := 1) cx (by decide +kernel) dX11_goesBack_93 ?_
  obtain ⟨v17, S18, e19, h⟩ := g_bd_ex h
  refine q_cvi (As := [.int v11, .int v14, .int a3, .int 1]) cx mo_X11_goesBy mv_X11_goesBy z_cl11 rfl tb_677 (by decide) rfl (by decide) rfl rfl (Nat.le_of_ble_eq_true rfl) dX11_goesBack_94 (c_X11_goesBy v11 v14 a3 1 _ e19) ?_
  obtain ⟨rfl, rfl⟩ := g_some h
  exact z_zreturn cx ce rfl (bI_nar _) ⟨rfl, rfl⟩ dX11_goesBack_97
theorem c_X11_goesBack {g : z_G} {n : Nat} (a0 : Int32) (a1 : Int32) (a2 : Int32) (a3 : Int32) (S : z_Stt) {v : Bool} {S' : z_Stt} (h : f_X11_goesBack n a0 a1 a2 a3 S = some (v, S')) : z_Ct g M_X11_goesBack 68 [.ref (z_ad g 48), .int a0, .int a1, .int a2, .int a3] (hp g S) (z_P g (some (.int (bI v))) S') :=
  z_Ct.of (by decide +kernel) rfl (Nat.le_of_ble_eq_true rfl) (fun K cx ce => q_weak (L' := [some (.ref (z_ad g 48)), some (.int a0), some (.int a1), some (.int a2), some (.int a3)]) (z_wk_s (z_wk_s (z_wk_s (z_wk_s (z_wk_s (z_wk_0)))))) (t_X11_goesBack n cx ce a0 a1 a2 a3 S h))
abbrev M_X11_drawn : z_M := (RX11, yX11_drawn, cX11_drawn, 13, some .int)
theorem mo_X11_drawn : z_mo M_X11_drawn 4 := ⟨tb_871, tb_5, rfl, ⟨by decide +kernel, by decide +kernel⟩, by decide +kernel, by decide⟩
theorem mv_X11_drawn : z_mv M_X11_drawn := ⟨tb_869, tb_870⟩
def f_X11_drawn_214 (n : Nat) (k80 : Int32 → Int32 → Int32 → Int32 → Int32 → Int32 → Int32 → Int32 → z_Stt → Option (Int32 × z_Stt)) (x2 : Int32) (x3 : Int32) (x4 : Int32) (x5 : Int32) (x6 : Int32) (x7 : Int32) (x9 : Int32) (y0 : Int32) (y1 : Int32) (S : z_Stt) : Option (Int32 × z_Stt) :=
  k80 x2 x3 x4 x5 x6 x7 (y1 + y0) (x9 + 1) S
set_option maxHeartbeats 4000000 in
set_option maxRecDepth 100000 in
theorem t_X11_drawn_214 {g : z_G} {K : z_K} (n : Nat) {v : Int32} {S' : z_Stt} (cx : z_C g M_X11_drawn 69 K) (ce : z_E' g M_X11_drawn (z_P g (some (.int v)) S') K) (k80 : Int32 → Int32 → Int32 → Int32 → Int32 → Int32 → Int32 → Int32 → z_Stt → Option (Int32 × z_Stt)) (hk80 : ∀ (x2 : Int32) (x3 : Int32) (x4 : Int32) (x5 : Int32) (x6 : Int32) (x7 : Int32) (x8 : Int32) (x9 : Int32) (S : z_Stt), k80 x2 x3 x4 x5 x6 x7 x8 x9 S = some (v, S') → z_At g M_X11_drawn K 80 [some (.ref (z_ad g 48)), none, some (.int x2), some (.int x3), some (.int x4), some (.int x5), some (.int x6), some (.int x7), some (.int x8), some (.int x9), none, none, none] [] (hp g S)) (x2 : Int32) (x3 : Int32) (x4 : Int32) (x5 : Int32) (x6 : Int32) (x7 : Int32) (x9 : Int32) (y0 : Int32) (y1 : Int32) (S : z_Stt) (h : f_X11_drawn_214 n k80 x2 x3 x4 x5 x6 x7 x9 y0 y1 S = some (v, S')) : z_At g M_X11_drawn K 214 [some (.ref (z_ad g 48)), none, some (.int x2), some (.int x3), some (.int x4), some (.int x5), some (.int x6), some (.int x7), none, some (.int x9), none, none, none] [.int y0, .int y1] (hp g S) := by
  unfold f_X11_drawn_214 at h
  refine z_iadd cx dX11_drawn_214 ?_
  refine z_istore (L' := [some (.ref (z_ad g 48)), none, some (.int x2), some (.int x3), some (.int x4), some (.int x5), some (.int x6), some (.int x7), some (.int (y1 + y0)), some (.int x9), none, none, none]) cx (by decide) rfl dX11_drawn_215 ?_
  refine z_iinc (c := 1) (L' := [some (.ref (z_ad g 48)), none, some (.int x2), some (.int x3), some (.int x4), some (.int x5), some (.int x6), some (.int x7), some (.int (y1 + y0)), some (.int (x9 + 1)), none, none, none]) cx rfl (by decide +kernel) (by decide) rfl dX11_drawn_217 ?_
  refine z_goto (tgt := 80) cx (by decide) dX11_drawn_220 ?_
  exact q_weak (z_wk_s (z_wk_n (z_wk_s (z_wk_s (z_wk_s (z_wk_s (z_wk_s (z_wk_s (z_wk_s (z_wk_s (z_wk_n (z_wk_n (z_wk_n (z_wk_0)))))))))))))) (hk80 x2 x3 x4 x5 x6 x7 (y1 + y0) (x9 + 1) S h)
def f_X11_drawn_213 (n : Nat) (k80 : Int32 → Int32 → Int32 → Int32 → Int32 → Int32 → Int32 → Int32 → z_Stt → Option (Int32 × z_Stt)) (x2 : Int32) (x3 : Int32) (x4 : Int32) (x5 : Int32) (x6 : Int32) (x7 : Int32) (x9 : Int32) (y0 : Int32) (S : z_Stt) : Option (Int32 × z_Stt) :=
  f_X11_drawn_214 n k80 x2 x3 x4 x5 x6 x7 x9 0 y0 S
set_option maxHeartbeats 4000000 in
set_option maxRecDepth 100000 in
theorem t_X11_drawn_213 {g : z_G} {K : z_K} (n : Nat) {v : Int32} {S' : z_Stt} (cx : z_C g M_X11_drawn 69 K) (ce : z_E' g M_X11_drawn (z_P g (some (.int v)) S') K) (k80 : Int32 → Int32 → Int32 → Int32 → Int32 → Int32 → Int32 → Int32 → z_Stt → Option (Int32 × z_Stt)) (hk80 : ∀ (x2 : Int32) (x3 : Int32) (x4 : Int32) (x5 : Int32) (x6 : Int32) (x7 : Int32) (x8 : Int32) (x9 : Int32) (S : z_Stt), k80 x2 x3 x4 x5 x6 x7 x8 x9 S = some (v, S') → z_At g M_X11_drawn K 80 [some (.ref (z_ad g 48)), none, some (.int x2), some (.int x3), some (.int x4), some (.int x5), some (.int x6), some (.int x7), some (.int x8), some (.int x9), none, none, none] [] (hp g S)) (x2 : Int32) (x3 : Int32) (x4 : Int32) (x5 : Int32) (x6 : Int32) (x7 : Int32) (x9 : Int32) (y0 : Int32) (S : z_Stt) (h : f_X11_drawn_213 n k80 x2 x3 x4 x5 x6 x7 x9 y0 S = some (v, S')) : z_At g M_X11_drawn K 213 [some (.ref (z_ad g 48)), none, some (.int x2), some (.int x3), some (.int x4), some (.int x5), some (.int x6), some (.int x7), none, some (.int x9), none, none, none] [.int y0] (hp g S) := by
  unfold f_X11_drawn_213 at h
  refine z_iconst (v := 0) cx (by decide +kernel) dX11_drawn_213 ?_
  exact q_weak (z_wk_s (z_wk_n (z_wk_s (z_wk_s (z_wk_s (z_wk_s (z_wk_s (z_wk_s (z_wk_n (z_wk_s (z_wk_n (z_wk_n (z_wk_n (z_wk_0)))))))))))))) (t_X11_drawn_214 n cx ce k80 hk80 x2 x3 x4 x5 x6 x7 x9 0 y0 S h)
def f_X11_drawn_194 (n : Nat) (k80 : Int32 → Int32 → Int32 → Int32 → Int32 → Int32 → Int32 → Int32 → z_Stt → Option (Int32 × z_Stt)) (x2 : Int32) (x3 : Int32) (x4 : Int32) (x5 : Int32) (x6 : Int32) (x8 : Int32) (x9 : Int32) (x10 : Int32) (x12 : Int32) (y0 : Int32) (y1 : Int32) (S : z_Stt) : Option (Int32 × z_Stt) :=
  if x12 = 0 then
    f_X11_drawn_213 n k80 x2 x3 x4 x5 x6 (y1 + y0) x9 x8 S
  else
    if x10 = 0 then
      f_X11_drawn_214 n k80 x2 x3 x4 x5 x6 (y1 + y0) x9 1 x8 S
    else
      f_X11_drawn_213 n k80 x2 x3 x4 x5 x6 (y1 + y0) x9 x8 S
set_option maxHeartbeats 4000000 in
set_option maxRecDepth 100000 in
theorem t_X11_drawn_194 {g : z_G} {K : z_K} (n : Nat) {v : Int32} {S' : z_Stt} (cx : z_C g M_X11_drawn 69 K) (ce : z_E' g M_X11_drawn (z_P g (some (.int v)) S') K) (k80 : Int32 → Int32 → Int32 → Int32 → Int32 → Int32 → Int32 → Int32 → z_Stt → Option (Int32 × z_Stt)) (hk80 : ∀ (x2 : Int32) (x3 : Int32) (x4 : Int32) (x5 : Int32) (x6 : Int32) (x7 : Int32) (x8 : Int32) (x9 : Int32) (S : z_Stt), k80 x2 x3 x4 x5 x6 x7 x8 x9 S = some (v, S') → z_At g M_X11_drawn K 80 [some (.ref (z_ad g 48)), none, some (.int x2), some (.int x3), some (.int x4), some (.int x5), some (.int x6), some (.int x7), some (.int x8), some (.int x9), none, none, none] [] (hp g S)) (x2 : Int32) (x3 : Int32) (x4 : Int32) (x5 : Int32) (x6 : Int32) (x8 : Int32) (x9 : Int32) (x10 : Int32) (x12 : Int32) (y0 : Int32) (y1 : Int32) (S : z_Stt) (h : f_X11_drawn_194 n k80 x2 x3 x4 x5 x6 x8 x9 x10 x12 y0 y1 S = some (v, S')) : z_At g M_X11_drawn K 194 [some (.ref (z_ad g 48)), none, some (.int x2), some (.int x3), some (.int x4), some (.int x5), some (.int x6), none, some (.int x8), some (.int x9), some (.int x10), none, some (.int x12)] [.int y0, .int y1] (hp g S) := by
  unfold f_X11_drawn_194 at h
  refine z_iadd cx dX11_drawn_194 ?_
  refine z_istore (L' := [some (.ref (z_ad g 48)), none, some (.int x2), some (.int x3), some (.int x4), some (.int x5), some (.int x6), some (.int (y1 + y0)), some (.int x8), some (.int x9), some (.int x10), none, some (.int x12)]) cx (by decide) rfl dX11_drawn_195 ?_
  refine z_iload cx rfl dX11_drawn_197 ?_
  refine z_iload cx rfl dX11_drawn_199 ?_
  refine z_if_eq (tgt := 213) cx (by decide) dX11_drawn_201 (fun c1 => ?_) (fun c1 => ?_)
  · have h := g_t c1 h
    exact q_weak (z_wk_s (z_wk_n (z_wk_s (z_wk_s (z_wk_s (z_wk_s (z_wk_s (z_wk_s (z_wk_n (z_wk_s (z_wk_n (z_wk_n (z_wk_n (z_wk_0)))))))))))))) (t_X11_drawn_213 n cx ce k80 hk80 x2 x3 x4 x5 x6 (y1 + y0) x9 x8 S h)
  · have h := g_f c1 h
    refine z_iload cx rfl dX11_drawn_204 ?_
    refine z_if_ne (tgt := 213) cx (by decide) dX11_drawn_206 (fun c2 => ?_) (fun c2 => ?_)
    · have h := g_f c2 h
      exact q_weak (z_wk_s (z_wk_n (z_wk_s (z_wk_s (z_wk_s (z_wk_s (z_wk_s (z_wk_s (z_wk_n (z_wk_s (z_wk_n (z_wk_n (z_wk_n (z_wk_0)))))))))))))) (t_X11_drawn_213 n cx ce k80 hk80 x2 x3 x4 x5 x6 (y1 + y0) x9 x8 S h)
    · have h := g_t c2 h
      refine z_iconst (v := 1) cx (by decide +kernel) dX11_drawn_209 ?_
      refine z_goto (tgt := 214) cx (by decide) dX11_drawn_210 ?_
      exact q_weak (z_wk_s (z_wk_n (z_wk_s (z_wk_s (z_wk_s (z_wk_s (z_wk_s (z_wk_s (z_wk_n (z_wk_s (z_wk_n (z_wk_n (z_wk_n (z_wk_0)))))))))))))) (t_X11_drawn_214 n cx ce k80 hk80 x2 x3 x4 x5 x6 (y1 + y0) x9 1 x8 S h)
def f_X11_drawn_144 (n : Nat) (k80 : Int32 → Int32 → Int32 → Int32 → Int32 → Int32 → Int32 → Int32 → z_Stt → Option (Int32 × z_Stt)) (x2 : Int32) (x3 : Int32) (x4 : Int32) (x5 : Int32) (x6 : Int32) (x7 : Int32) (x8 : Int32) (x9 : Int32) (x10 : Int32) (y0 : Int32) (S : z_Stt) : Option (Int32 × z_Stt) :=
  g_bd (f_X11_goesBack n (x3 % 10) x5 y0 x6 S) fun v1 S2 =>
  if v1 = true then
    g_bd (f_X11_backCosts x6 S2) fun v9 S10 =>
    f_X11_drawn_194 n k80 x2 x3 x4 x5 x6 x8 x9 x10 (bI v1) v9 x7 S10
  else
    if x10 = 0 then
      f_X11_drawn_194 n k80 x2 x3 x4 x5 x6 x8 x9 x10 (bI v1) 0 x7 S2
    else
      g_bd (f_X11_numberOf x5 3 S2) fun v6 S7 =>
      f_X11_drawn_194 n k80 x2 x3 x4 x5 x6 x8 x9 x10 (bI v1) v6 x7 S7
set_option maxHeartbeats 4000000 in
set_option maxRecDepth 100000 in
theorem t_X11_drawn_144 {g : z_G} {K : z_K} (n : Nat) {v : Int32} {S' : z_Stt} (cx : z_C g M_X11_drawn 69 K) (ce : z_E' g M_X11_drawn (z_P g (some (.int v)) S') K) (k80 : Int32 → Int32 → Int32 → Int32 → Int32 → Int32 → Int32 → Int32 → z_Stt → Option (Int32 × z_Stt)) (hk80 : ∀ (x2 : Int32) (x3 : Int32) (x4 : Int32) (x5 : Int32) (x6 : Int32) (x7 : Int32) (x8 : Int32) (x9 : Int32) (S : z_Stt), k80 x2 x3 x4 x5 x6 x7 x8 x9 S = some (v, S') → z_At g M_X11_drawn K 80 [some (.ref (z_ad g 48)), none, some (.int x2), some (.int x3), some (.int x4), some (.int x5), some (.int x6), some (.int x7), some (.int x8), some (.int x9), none, none, none] [] (hp g S)) (x2 : Int32) (x3 : Int32) (x4 : Int32) (x5 : Int32) (x6 : Int32) (x7 : Int32) (x8 : Int32) (x9 : Int32) (x10 : Int32) (y0 : Int32) (S : z_Stt) (h : f_X11_drawn_144 n k80 x2 x3 x4 x5 x6 x7 x8 x9 x10 y0 S = some (v, S')) : z_At g M_X11_drawn K 144 [some (.ref (z_ad g 48)), none, some (.int x2), some (.int x3), some (.int x4), some (.int x5), some (.int x6), some (.int x7), some (.int x8), some (.int x9), some (.int x10), none, none] [.int y0] (hp g S) := by
  unfold f_X11_drawn_144 at h
  refine z_istore (L' := [some (.ref (z_ad g 48)), none, some (.int x2), some (.int x3), some (.int x4), some (.int x5), some (.int x6), some (.int x7), some (.int x8), some (.int x9), some (.int x10), some (.int y0), none]) cx (by decide) rfl dX11_drawn_144 ?_
  refine z_aload_n cx rfl rfl dX11_drawn_146 ?_
  refine z_iload_n cx rfl rfl dX11_drawn_147 ?_
  refine z_bipush (v := 10) cx (by decide +kernel) dX11_drawn_148 ?_
  refine z_irem cx (by decide +kernel) dX11_drawn_150 ?_
  refine z_iload cx rfl dX11_drawn_151 ?_
  refine z_iload cx rfl dX11_drawn_153 ?_
  refine z_iload cx rfl dX11_drawn_155 ?_
  obtain ⟨v1, S2, e3, h⟩ := g_bd_ex h
  refine q_cvi (As := [.int (x3 % 10), .int x5, .int y0, .int x6]) cx mo_X11_goesBack mv_X11_goesBack z_cl11 rfl tb_879 (by decide) rfl (by decide) rfl rfl (Nat.le_of_ble_eq_true rfl) dX11_drawn_157 (c_X11_goesBack (x3 % 10) x5 y0 x6 _ e3) ?_
  refine z_istore (L' := [some (.ref (z_ad g 48)), none, some (.int x2), some (.int x3), some (.int x4), some (.int x5), some (.int x6), some (.int x7), some (.int x8), some (.int x9), some (.int x10), some (.int y0), some (.int (bI v1))]) cx (by decide) rfl dX11_drawn_160 ?_
  refine z_iload cx rfl dX11_drawn_162 ?_
  refine z_iload cx rfl dX11_drawn_164 ?_
  refine q_ifb_eq (tgt := 178) cx (by decide) dX11_drawn_166 (fun c4 => ?_) (fun c4 => ?_)
  · have h := g_f (Bool.eq_false_iff.mp c4) h
    refine z_iload cx rfl dX11_drawn_178 ?_
    refine z_if_eq (tgt := 193) cx (by decide) dX11_drawn_180 (fun c5 => ?_) (fun c5 => ?_)
    · have h := g_t c5 h
      refine z_iconst (v := 0) cx (by decide +kernel) dX11_drawn_193 ?_
      exact q_weak (z_wk_s (z_wk_n (z_wk_s (z_wk_s (z_wk_s (z_wk_s (z_wk_s (z_wk_n (z_wk_s (z_wk_s (z_wk_s (z_wk_n (z_wk_s (z_wk_0)))))))))))))) (t_X11_drawn_194 n cx ce k80 hk80 x2 x3 x4 x5 x6 x8 x9 x10 (bI v1) 0 x7 S2 h)
    · have h := g_f c5 h
      refine z_aload_n cx rfl rfl dX11_drawn_183 ?_
      refine z_iload cx rfl dX11_drawn_184 ?_
      refine z_iconst (v := 3) cx (by decide +kernel) dX11_drawn_186 ?_
      obtain ⟨v6, S7, e8, h⟩ := g_bd_ex h
      refine q_cvi (As := [.int x5, .int 3]) cx mo_X11_numberOf mv_X11_numberOf z_cl11 rfl tb_496 (by decide) rfl (by decide) rfl rfl (Nat.le_of_ble_eq_true rfl) dX11_drawn_187 (c_X11_numberOf x5 3 _ e8) ?_
      refine z_goto (tgt := 194) cx (by decide) dX11_drawn_190 ?_
      exact q_weak (z_wk_s (z_wk_n (z_wk_s (z_wk_s (z_wk_s (z_wk_s (z_wk_s (z_wk_n (z_wk_s (z_wk_s (z_wk_s (z_wk_n (z_wk_s (z_wk_0)))))))))))))) (t_X11_drawn_194 n cx ce k80 hk80 x2 x3 x4 x5 x6 x8 x9 x10 (bI v1) v6 x7 S7 h)
  · have h := g_t c4 h
    refine z_aload_n cx rfl rfl dX11_drawn_169 ?_
    refine z_iload cx rfl dX11_drawn_170 ?_
    obtain ⟨v9, S10, e11, h⟩ := g_bd_ex h
    refine q_cvi (As := [.int x6]) cx mo_X11_backCosts mv_X11_backCosts z_cl11 rfl tb_552 (by decide) rfl (by decide) rfl rfl (Nat.le_of_ble_eq_true rfl) dX11_drawn_172 (c_X11_backCosts x6 _ e11) ?_
    refine z_goto (tgt := 194) cx (by decide) dX11_drawn_175 ?_
    exact q_weak (z_wk_s (z_wk_n (z_wk_s (z_wk_s (z_wk_s (z_wk_s (z_wk_s (z_wk_n (z_wk_s (z_wk_s (z_wk_s (z_wk_n (z_wk_s (z_wk_0)))))))))))))) (t_X11_drawn_194 n cx ce k80 hk80 x2 x3 x4 x5 x6 x8 x9 x10 (bI v1) v9 x7 S10 h)
def f_X11_drawn_136 (n : Nat) (k80 : Int32 → Int32 → Int32 → Int32 → Int32 → Int32 → Int32 → Int32 → z_Stt → Option (Int32 × z_Stt)) (x2 : Int32) (x3 : Int32) (x4 : Int32) (x5 : Int32) (x6 : Int32) (x7 : Int32) (x8 : Int32) (x9 : Int32) (x10 : Int32) (y0 : Int32) (y1 : Int32) (S : z_Stt) : Option (Int32 × z_Stt) :=
  if y0 ≤ y1 then
    f_X11_drawn_144 n k80 x2 x3 x4 x5 x6 x7 x8 x9 x10 0 S
  else
    f_X11_drawn_144 n k80 x2 x3 x4 x5 x6 x7 x8 x9 x10 1 S
set_option maxHeartbeats 4000000 in
set_option maxRecDepth 100000 in
theorem t_X11_drawn_136 {g : z_G} {K : z_K} (n : Nat) {v : Int32} {S' : z_Stt} (cx : z_C g M_X11_drawn 69 K) (ce : z_E' g M_X11_drawn (z_P g (some (.int v)) S') K) (k80 : Int32 → Int32 → Int32 → Int32 → Int32 → Int32 → Int32 → Int32 → z_Stt → Option (Int32 × z_Stt)) (hk80 : ∀ (x2 : Int32) (x3 : Int32) (x4 : Int32) (x5 : Int32) (x6 : Int32) (x7 : Int32) (x8 : Int32) (x9 : Int32) (S : z_Stt), k80 x2 x3 x4 x5 x6 x7 x8 x9 S = some (v, S') → z_At g M_X11_drawn K 80 [some (.ref (z_ad g 48)), none, some (.int x2), some (.int x3), some (.int x4), some (.int x5), some (.int x6), some (.int x7), some (.int x8), some (.int x9), none, none, none] [] (hp g S)) (x2 : Int32) (x3 : Int32) (x4 : Int32) (x5 : Int32) (x6 : Int32) (x7 : Int32) (x8 : Int32) (x9 : Int32) (x10 : Int32) (y0 : Int32) (y1 : Int32) (S : z_Stt) (h : f_X11_drawn_136 n k80 x2 x3 x4 x5 x6 x7 x8 x9 x10 y0 y1 S = some (v, S')) : z_At g M_X11_drawn K 136 [some (.ref (z_ad g 48)), none, some (.int x2), some (.int x3), some (.int x4), some (.int x5), some (.int x6), some (.int x7), some (.int x8), some (.int x9), some (.int x10), none, none] [.int y0, .int y1] (hp g S) := by
  unfold f_X11_drawn_136 at h
  refine z_icmp_ge (tgt := 143) cx (by decide) dX11_drawn_136 (fun c1 => ?_) (fun c1 => ?_)
  · have h := g_t c1 h
    refine z_iconst (v := 0) cx (by decide +kernel) dX11_drawn_143 ?_
    exact q_weak (z_wk_s (z_wk_n (z_wk_s (z_wk_s (z_wk_s (z_wk_s (z_wk_s (z_wk_s (z_wk_s (z_wk_s (z_wk_s (z_wk_n (z_wk_n (z_wk_0)))))))))))))) (t_X11_drawn_144 n cx ce k80 hk80 x2 x3 x4 x5 x6 x7 x8 x9 x10 0 S h)
  · have h := g_f c1 h
    refine z_iconst (v := 1) cx (by decide +kernel) dX11_drawn_139 ?_
    refine z_goto (tgt := 144) cx (by decide) dX11_drawn_140 ?_
    exact q_weak (z_wk_s (z_wk_n (z_wk_s (z_wk_s (z_wk_s (z_wk_s (z_wk_s (z_wk_s (z_wk_s (z_wk_s (z_wk_s (z_wk_n (z_wk_n (z_wk_0)))))))))))))) (t_X11_drawn_144 n cx ce k80 hk80 x2 x3 x4 x5 x6 x7 x8 x9 x10 1 S h)
def f_X11_drawn_108 (n : Nat) (k80 : Int32 → Int32 → Int32 → Int32 → Int32 → Int32 → Int32 → Int32 → z_Stt → Option (Int32 × z_Stt)) (x2 : Int32) (x3 : Int32) (x4 : Int32) (x5 : Int32) (x6 : Int32) (x7 : Int32) (x8 : Int32) (x9 : Int32) (y0 : Int32) (S : z_Stt) : Option (Int32 × z_Stt) :=
  g_bd (f_X11_draws 12 S) fun v1 S2 =>
  if y0 = 0 then
    g_bd (f_X11_traceOf x5 S2) fun v5 S6 =>
    f_X11_drawn_136 n k80 x2 x3 x4 x5 x6 x7 x8 x9 y0 v5 v1 S6
  else
    g_bd (f_X11_staleOf x5 S2) fun v8 S9 =>
    f_X11_drawn_136 n k80 x2 x3 x4 x5 x6 x7 x8 x9 y0 v8 v1 S9
set_option maxHeartbeats 4000000 in
set_option maxRecDepth 100000 in
theorem t_X11_drawn_108 {g : z_G} {K : z_K} (n : Nat) {v : Int32} {S' : z_Stt} (cx : z_C g M_X11_drawn 69 K) (ce : z_E' g M_X11_drawn (z_P g (some (.int v)) S') K) (k80 : Int32 → Int32 → Int32 → Int32 → Int32 → Int32 → Int32 → Int32 → z_Stt → Option (Int32 × z_Stt)) (hk80 : ∀ (x2 : Int32) (x3 : Int32) (x4 : Int32) (x5 : Int32) (x6 : Int32) (x7 : Int32) (x8 : Int32) (x9 : Int32) (S : z_Stt), k80 x2 x3 x4 x5 x6 x7 x8 x9 S = some (v, S') → z_At g M_X11_drawn K 80 [some (.ref (z_ad g 48)), none, some (.int x2), some (.int x3), some (.int x4), some (.int x5), some (.int x6), some (.int x7), some (.int x8), some (.int x9), none, none, none] [] (hp g S)) (x2 : Int32) (x3 : Int32) (x4 : Int32) (x5 : Int32) (x6 : Int32) (x7 : Int32) (x8 : Int32) (x9 : Int32) (y0 : Int32) (S : z_Stt) (h : f_X11_drawn_108 n k80 x2 x3 x4 x5 x6 x7 x8 x9 y0 S = some (v, S')) : z_At g M_X11_drawn K 108 [some (.ref (z_ad g 48)), none, some (.int x2), some (.int x3), some (.int x4), some (.int x5), some (.int x6), some (.int x7), some (.int x8), some (.int x9), none, none, none] [.int y0] (hp g S) := by
  unfold f_X11_drawn_108 at h
  refine z_istore (L' := [some (.ref (z_ad g 48)), none, some (.int x2), some (.int x3), some (.int x4), some (.int x5), some (.int x6), some (.int x7), some (.int x8), some (.int x9), some (.int y0), none, none]) cx (by decide) rfl dX11_drawn_108 ?_
  refine z_aload_n cx rfl rfl dX11_drawn_110 ?_
  refine z_bipush (v := 12) cx (by decide +kernel) dX11_drawn_111 ?_
  obtain ⟨v1, S2, e3, h⟩ := g_bd_ex h
  refine q_cvi (As := [.int 12]) cx mo_X11_draws mv_X11_draws z_cl11 rfl tb_874 (by decide) rfl (by decide) rfl rfl (Nat.le_of_ble_eq_true rfl) dX11_drawn_113 (c_X11_draws 12 _ e3) ?_
  refine z_iload cx rfl dX11_drawn_116 ?_
  refine z_if_eq (tgt := 130) cx (by decide) dX11_drawn_118 (fun c4 => ?_) (fun c4 => ?_)
  · have h := g_t c4 h
    refine z_aload_n cx rfl rfl dX11_drawn_130 ?_
    refine z_iload cx rfl dX11_drawn_131 ?_
    obtain ⟨v5, S6, e7, h⟩ := g_bd_ex h
    refine q_cvi (As := [.int x5]) cx mo_X11_traceOf mv_X11_traceOf z_cl11 rfl tb_504 (by decide) rfl (by decide) rfl rfl (Nat.le_of_ble_eq_true rfl) dX11_drawn_133 (c_X11_traceOf x5 _ e7) ?_
    exact q_weak (z_wk_s (z_wk_n (z_wk_s (z_wk_s (z_wk_s (z_wk_s (z_wk_s (z_wk_s (z_wk_s (z_wk_s (z_wk_s (z_wk_n (z_wk_n (z_wk_0)))))))))))))) (t_X11_drawn_136 n cx ce k80 hk80 x2 x3 x4 x5 x6 x7 x8 x9 y0 v5 v1 S6 h)
  · have h := g_f c4 h
    refine z_aload_n cx rfl rfl dX11_drawn_121 ?_
    refine z_iload cx rfl dX11_drawn_122 ?_
    obtain ⟨v8, S9, e10, h⟩ := g_bd_ex h
    refine q_cvi (As := [.int x5]) cx mo_X11_staleOf mv_X11_staleOf z_cl11 rfl tb_500 (by decide) rfl (by decide) rfl rfl (Nat.le_of_ble_eq_true rfl) dX11_drawn_124 (c_X11_staleOf x5 _ e10) ?_
    refine z_goto (tgt := 136) cx (by decide) dX11_drawn_127 ?_
    exact q_weak (z_wk_s (z_wk_n (z_wk_s (z_wk_s (z_wk_s (z_wk_s (z_wk_s (z_wk_s (z_wk_s (z_wk_s (z_wk_s (z_wk_n (z_wk_n (z_wk_0)))))))))))))) (t_X11_drawn_136 n cx ce k80 hk80 x2 x3 x4 x5 x6 x7 x8 x9 y0 v8 v1 S9 h)
def f_X11_drawn_80 (n : Nat) : Nat → Int32 → Int32 → Int32 → Int32 → Int32 → Int32 → Int32 → Int32 → z_Stt → Option (Int32 × z_Stt)
  | 0, _, _, _, _, _, _, _, _, _ => none
  | m + 1, x2, x3, x4, x5, x6, x7, x8, x9, S =>
    if x2 ≤ x9 then
      if x4 = 0 then
        some (x7, S)
      else
        some (x8, S)
    else
      g_bd (f_X11_draws 144 S) fun v3 S4 =>
      g_bd (f_X11_numberOf x5 0 S4) fun v6 S7 =>
      if v6 ≤ v3 then
        f_X11_drawn_108 n (f_X11_drawn_80 n m) x2 x3 x4 x5 x6 x7 x8 x9 0 S7
      else
        f_X11_drawn_108 n (f_X11_drawn_80 n m) x2 x3 x4 x5 x6 x7 x8 x9 1 S7
set_option maxHeartbeats 4000000 in
set_option maxRecDepth 100000 in
theorem t_X11_drawn_80 {g : z_G} {K : z_K} (n : Nat) {v : Int32} {S' : z_Stt} (cx : z_C g M_X11_drawn 69 K) (ce : z_E' g M_X11_drawn (z_P g (some (.int v)) S') K) : ∀ (m : Nat) (x2 : Int32) (x3 : Int32) (x4 : Int32) (x5 : Int32) (x6 : Int32) (x7 : Int32) (x8 : Int32) (x9 : Int32) (S : z_Stt) (h : f_X11_drawn_80 n m x2 x3 x4 x5 x6 x7 x8 x9 S = some (v, S')), z_At g M_X11_drawn K 80 [some (.ref (z_ad g 48)), none, some (.int x2), some (.int x3), some (.int x4), some (.int x5), some (.int x6), some (.int x7), some (.int x8), some (.int x9), none, none, none] [] (hp g S) := by
  intro m
  induction m with
  | zero => intro x2 x3 x4 x5 x6 x7 x8 x9 S h; simp [f_X11_drawn_80] at h
  | succ m ih =>
    intro x2 x3 x4 x5 x6 x7 x8 x9 S h
    rw [f_X11_drawn_80] at h
    refine z_iload cx rfl dX11_drawn_80 ?_
    refine z_iload_n cx rfl rfl dX11_drawn_82 ?_
    refine z_icmp_ge (tgt := 223) cx (by decide) dX11_drawn_83 (fun c1 => ?_) (fun c1 => ?_)
    · have h := g_t c1 h
      refine z_iload cx rfl dX11_drawn_223 ?_
      refine z_if_ne (tgt := 233) cx (by decide) dX11_drawn_225 (fun c2 => ?_) (fun c2 => ?_)
      · have h := g_f c2 h
        refine z_iload cx rfl dX11_drawn_233 ?_
        obtain ⟨rfl, rfl⟩ := g_some h
        exact z_ireturn cx ce rfl ⟨rfl, rfl⟩ dX11_drawn_235
      · have h := g_t c2 h
        refine z_iload cx rfl dX11_drawn_228 ?_
        refine z_goto (tgt := 235) cx (by decide) dX11_drawn_230 ?_
        obtain ⟨rfl, rfl⟩ := g_some h
        exact z_ireturn cx ce rfl ⟨rfl, rfl⟩ dX11_drawn_235
    · have h := g_f c1 h
      refine z_aload_n cx rfl rfl dX11_drawn_86 ?_
      refine z_sipush (v := 144) cx (by decide +kernel) dX11_drawn_87 ?_
      obtain ⟨v3, S4, e5, h⟩ := g_bd_ex h
      refine q_cvi (As := [.int 144]) cx mo_X11_draws mv_X11_draws z_cl11 rfl tb_874 (by decide) rfl (by decide) rfl rfl (Nat.le_of_ble_eq_true rfl) dX11_drawn_90 (c_X11_draws 144 _ e5) ?_
      refine z_aload_n cx rfl rfl dX11_drawn_93 ?_
      refine z_iload cx rfl dX11_drawn_94 ?_
      refine z_iconst (v := 0) cx (by decide +kernel) dX11_drawn_96 ?_
      obtain ⟨v6, S7, e8, h⟩ := g_bd_ex h
      refine q_cvi (As := [.int x5, .int 0]) cx mo_X11_numberOf mv_X11_numberOf z_cl11 rfl tb_496 (by decide) rfl (by decide) rfl rfl (Nat.le_of_ble_eq_true rfl) dX11_drawn_97 (c_X11_numberOf x5 0 _ e8) ?_
      refine z_icmp_ge (tgt := 107) cx (by decide) dX11_drawn_100 (fun c9 => ?_) (fun c9 => ?_)
      · have h := g_t c9 h
        refine z_iconst (v := 0) cx (by decide +kernel) dX11_drawn_107 ?_
        exact q_weak (z_wk_s (z_wk_n (z_wk_s (z_wk_s (z_wk_s (z_wk_s (z_wk_s (z_wk_s (z_wk_s (z_wk_s (z_wk_n (z_wk_n (z_wk_n (z_wk_0)))))))))))))) (t_X11_drawn_108 n cx ce (f_X11_drawn_80 n m) ih x2 x3 x4 x5 x6 x7 x8 x9 0 S7 h)
      · have h := g_f c9 h
        refine z_iconst (v := 1) cx (by decide +kernel) dX11_drawn_103 ?_
        refine z_goto (tgt := 108) cx (by decide) dX11_drawn_104 ?_
        exact q_weak (z_wk_s (z_wk_n (z_wk_s (z_wk_s (z_wk_s (z_wk_s (z_wk_s (z_wk_s (z_wk_s (z_wk_s (z_wk_n (z_wk_n (z_wk_n (z_wk_0)))))))))))))) (t_X11_drawn_108 n cx ce (f_X11_drawn_80 n m) ih x2 x3 x4 x5 x6 x7 x8 x9 1 S7 h)
def f_X11_drawn (n : Nat) (a0 : Int32) (a1 : Int32) (a2 : Int32) (a3 : Int32) (S : z_Stt) : Option (Int32 × z_Stt) :=
  g_bd (f_X11_within (Int32.toInt64 a1) 1 60 S) fun v1 S2 =>
  if v1 = true then
    if a2 < 0 then
      some ((-1), S2)
    else
      g_bd (f_X11_isThing (Int32.toInt64 (a2 / 1000)) S2) fun v6 S7 =>
      if v6 = true then
        if 4 < a2 % 10 then
          some ((-1), S7)
        else
          g_bd (f_X11_within (Int32.toInt64 a3) 0 1 S7) fun v11 S12 =>
          if v11 = true then
            g_let (sI S12 4829 a0) fun S15 =>
            f_X11_drawn_80 n n a1 a2 a3 (a2 / 1000) ((a2 / 10) % 100) 0 0 0 S15
          else
            some ((-1), S12)
      else
        some ((-1), S7)
  else
    some ((-1), S2)
set_option maxHeartbeats 4000000 in
set_option maxRecDepth 100000 in
theorem t_X11_drawn {g : z_G} {K : z_K} (n : Nat) {v : Int32} {S' : z_Stt} (cx : z_C g M_X11_drawn 69 K) (ce : z_E' g M_X11_drawn (z_P g (some (.int v)) S') K) (a0 : Int32) (a1 : Int32) (a2 : Int32) (a3 : Int32) (S : z_Stt) (h : f_X11_drawn n a0 a1 a2 a3 S = some (v, S')) : z_At g M_X11_drawn K 0 [some (.ref (z_ad g 48)), some (.int a0), some (.int a1), some (.int a2), some (.int a3), none, none, none, none, none, none, none, none] [] (hp g S) := by
  unfold f_X11_drawn at h
  refine z_iload_n cx rfl rfl dX11_drawn_0 ?_
  refine z_i2l cx dX11_drawn_1 ?_
  refine z_lconst (v := 1) cx (by decide +kernel) dX11_drawn_2 ?_
  refine z_ldc2 cx tb_872 dX11_drawn_3 ?_
  obtain ⟨v1, S2, e3, h⟩ := g_bd_ex h
  refine q_csi (As := [.long (Int32.toInt64 a1), .long 1, .long 60]) cx mo_X11_within ms_X11_within tb_185 (by decide) rfl rfl (Nat.le_of_ble_eq_true rfl) dX11_drawn_6 (c_X11_within (Int32.toInt64 a1) 1 60 _ e3) ?_
  refine q_ifb_eq (tgt := 48) cx (by decide) dX11_drawn_9 (fun c4 => ?_) (fun c4 => ?_)
  · have h := g_f (Bool.eq_false_iff.mp c4) h
    refine z_iconst (v := (-1)) cx (by decide +kernel) dX11_drawn_48 ?_
    obtain ⟨rfl, rfl⟩ := g_some h
    exact z_ireturn cx ce rfl ⟨rfl, rfl⟩ dX11_drawn_49
  · have h := g_t c4 h
    refine z_iload_n cx rfl rfl dX11_drawn_12 ?_
    refine z_if_lt (tgt := 48) cx (by decide) dX11_drawn_13 (fun c5 => ?_) (fun c5 => ?_)
    · have h := g_t c5 h
      refine z_iconst (v := (-1)) cx (by decide +kernel) dX11_drawn_48 ?_
      obtain ⟨rfl, rfl⟩ := g_some h
      exact z_ireturn cx ce rfl ⟨rfl, rfl⟩ dX11_drawn_49
    · have h := g_f c5 h
      refine z_aload_n cx rfl rfl dX11_drawn_16 ?_
      refine z_iload_n cx rfl rfl dX11_drawn_17 ?_
      refine z_sipush (v := 1000) cx (by decide +kernel) dX11_drawn_18 ?_
      refine z_idiv cx (by decide +kernel) dX11_drawn_21 ?_
      refine z_i2l cx dX11_drawn_22 ?_
      obtain ⟨v6, S7, e8, h⟩ := g_bd_ex h
      refine q_cvi (As := [.long (Int32.toInt64 (a2 / 1000))]) cx mo_X11_isThing mv_X11_isThing z_cl11 rfl tb_274 (by decide) rfl (by decide) rfl rfl (Nat.le_of_ble_eq_true rfl) dX11_drawn_23 (c_X11_isThing (Int32.toInt64 (a2 / 1000)) _ e8) ?_
      refine q_ifb_eq (tgt := 48) cx (by decide) dX11_drawn_26 (fun c9 => ?_) (fun c9 => ?_)
      · have h := g_f (Bool.eq_false_iff.mp c9) h
        refine z_iconst (v := (-1)) cx (by decide +kernel) dX11_drawn_48 ?_
        obtain ⟨rfl, rfl⟩ := g_some h
        exact z_ireturn cx ce rfl ⟨rfl, rfl⟩ dX11_drawn_49
      · have h := g_t c9 h
        refine z_iload_n cx rfl rfl dX11_drawn_29 ?_
        refine z_bipush (v := 10) cx (by decide +kernel) dX11_drawn_30 ?_
        refine z_irem cx (by decide +kernel) dX11_drawn_32 ?_
        refine z_iconst (v := 4) cx (by decide +kernel) dX11_drawn_33 ?_
        refine z_icmp_gt (tgt := 48) cx (by decide) dX11_drawn_34 (fun c10 => ?_) (fun c10 => ?_)
        · have h := g_t c10 h
          refine z_iconst (v := (-1)) cx (by decide +kernel) dX11_drawn_48 ?_
          obtain ⟨rfl, rfl⟩ := g_some h
          exact z_ireturn cx ce rfl ⟨rfl, rfl⟩ dX11_drawn_49
        · have h := g_f c10 h
          refine z_iload cx rfl dX11_drawn_37 ?_
          refine z_i2l cx dX11_drawn_39 ?_
          refine z_lconst (v := 0) cx (by decide +kernel) dX11_drawn_40 ?_
          refine z_lconst (v := 1) cx (by decide +kernel) dX11_drawn_41 ?_
          obtain ⟨v11, S12, e13, h⟩ := g_bd_ex h
          refine q_csi (As := [.long (Int32.toInt64 a3), .long 0, .long 1]) cx mo_X11_within ms_X11_within tb_185 (by decide) rfl rfl (Nat.le_of_ble_eq_true rfl) dX11_drawn_42 (c_X11_within (Int32.toInt64 a3) 0 1 _ e13) ?_
          refine q_ifb_ne (tgt := 50) cx (by decide) dX11_drawn_45 (fun c14 => ?_) (fun c14 => ?_)
          · have h := g_t c14 h
            refine z_iload_n cx rfl rfl dX11_drawn_50 ?_
            refine z_sipush (v := 1000) cx (by decide +kernel) dX11_drawn_51 ?_
            refine z_idiv cx (by decide +kernel) dX11_drawn_54 ?_
            refine z_istore (L' := [some (.ref (z_ad g 48)), some (.int a0), some (.int a1), some (.int a2), some (.int a3), some (.int (a2 / 1000)), none, none, none, none, none, none, none]) cx (by decide) rfl dX11_drawn_55 ?_
            refine z_iload_n cx rfl rfl dX11_drawn_57 ?_
            refine z_bipush (v := 10) cx (by decide +kernel) dX11_drawn_58 ?_
            refine z_idiv cx (by decide +kernel) dX11_drawn_60 ?_
            refine z_bipush (v := 100) cx (by decide +kernel) dX11_drawn_61 ?_
            refine z_irem cx (by decide +kernel) dX11_drawn_63 ?_
            refine z_istore (L' := [some (.ref (z_ad g 48)), some (.int a0), some (.int a1), some (.int a2), some (.int a3), some (.int (a2 / 1000)), some (.int ((a2 / 10) % 100)), none, none, none, none, none, none]) cx (by decide) rfl dX11_drawn_64 ?_
            refine z_aload_n cx rfl rfl dX11_drawn_66 ?_
            refine z_iload_n cx rfl rfl dX11_drawn_67 ?_
            refine q_putI (k := 48) (n := 4829) cx z_cl11 (j := 29) (by decide) tb_873 rfl rfl rfl (by decide) rfl rfl rfl (by decide) (by decide) dX11_drawn_68 ?_
            obtain ⟨S15, e16, h⟩ := g_let_ex h
            rw [← e16]
            refine z_iconst (v := 0) cx (by decide +kernel) dX11_drawn_71 ?_
            refine z_istore (L' := [some (.ref (z_ad g 48)), some (.int a0), some (.int a1), some (.int a2), some (.int a3), some (.int (a2 / 1000)), some (.int ((a2 / 10) % 100)), some (.int 0), none, none, none, none, none]) cx (by decide) rfl dX11_drawn_72 ?_
            refine z_iconst (v := 0) cx (by decide +kernel) dX11_drawn_74 ?_
            refine z_istore (L' := [some (.ref (z_ad g 48)), some (.int a0), some (.int a1), some (.int a2), some (.int a3), some (.int (a2 / 1000)), some (.int ((a2 / 10) % 100)), some (.int 0), some (.int 0), none, none, none, none]) cx (by decide) rfl dX11_drawn_75 ?_
            refine z_iconst (v := 0) cx (by decide +kernel) dX11_drawn_77 ?_
            refine z_istore (L' := [some (.ref (z_ad g 48)), some (.int a0), some (.int a1), some (.int a2), some (.int a3), some (.int (a2 / 1000)), some (.int ((a2 / 10) % 100)), some (.int 0), some (.int 0), some (.int 0), none, none, none]) cx (by decide) rfl dX11_drawn_78 ?_
            exact q_weak (z_wk_s (z_wk_n (z_wk_s (z_wk_s (z_wk_s (z_wk_s (z_wk_s (z_wk_s (z_wk_s (z_wk_s (z_wk_n (z_wk_n (z_wk_n (z_wk_0)))))))))))))) (t_X11_drawn_80 n cx ce n a1 a2 a3 (a2 / 1000) ((a2 / 10) % 100) 0 0 0 S15 h)
          · have h := g_f (Bool.eq_false_iff.mp c14) h
            refine z_iconst (v := (-1)) cx (by decide +kernel) dX11_drawn_48 ?_
            obtain ⟨rfl, rfl⟩ := g_some h
            exact z_ireturn cx ce rfl ⟨rfl, rfl⟩ dX11_drawn_49
theorem c_X11_drawn {g : z_G} {n : Nat} (a0 : Int32) (a1 : Int32) (a2 : Int32) (a3 : Int32) (S : z_Stt) {v : Int32} {S' : z_Stt} (h : f_X11_drawn n a0 a1 a2 a3 S = some (v, S')) : z_Ct g M_X11_drawn 69 [.ref (z_ad g 48), .int a0, .int a1, .int a2, .int a3] (hp g S) (z_P g (some (.int v)) S') :=
  z_Ct.of (by decide +kernel) rfl (Nat.le_of_ble_eq_true rfl) (fun K cx ce => q_weak (L' := [some (.ref (z_ad g 48)), some (.int a0), some (.int a1), some (.int a2), some (.int a3), none, none, none, none, none, none, none, none]) (z_wk_s (z_wk_s (z_wk_s (z_wk_s (z_wk_s (z_wk_e (z_wk_e (z_wk_e (z_wk_e (z_wk_e (z_wk_e (z_wk_e (z_wk_e (z_wk_0)))))))))))))) (t_X11_drawn n cx ce a0 a1 a2 a3 S h))
abbrev M_X11_isGravel : z_M := (RX11, yX11_isGravel, cX11_isGravel, 5, some .boolean)
theorem mo_X11_isGravel : z_mo M_X11_isGravel 1 := ⟨tb_909, tb_5, rfl, ⟨by decide +kernel, by decide +kernel⟩, by decide +kernel, by decide⟩
theorem mv_X11_isGravel : z_mv M_X11_isGravel := ⟨tb_907, tb_908⟩
def f_X11_isGravel_39 (n : Nat) (k2 : Int32 → Int32 → z_Stt → Option (Bool × z_Stt)) (x1 : Int32) (x2 : Int32) (y0 : Int64) (y1 : Int64) (y2 : Int64) (S : z_Stt) : Option (Bool × z_Stt) :=
  g_bd (f_X11_within y2 y1 y0 S) fun v1 S2 =>
  if v1 = true then
    k2 x1 (x2 + 1) S2
  else
    some (false, S2)
set_option maxHeartbeats 4000000 in
set_option maxRecDepth 100000 in
theorem t_X11_isGravel_39 {g : z_G} {K : z_K} (n : Nat) {v : Bool} {S' : z_Stt} (cx : z_C g M_X11_isGravel 1 K) (ce : z_E' g M_X11_isGravel (z_P g (some (.int (bI v))) S') K) (k2 : Int32 → Int32 → z_Stt → Option (Bool × z_Stt)) (hk2 : ∀ (x1 : Int32) (x2 : Int32) (S : z_Stt), k2 x1 x2 S = some (v, S') → z_At g M_X11_isGravel K 2 [some (.ref (z_ad g 48)), some (.int x1), some (.int x2), none, none] [] (hp g S)) (x1 : Int32) (x2 : Int32) (y0 : Int64) (y1 : Int64) (y2 : Int64) (S : z_Stt) (h : f_X11_isGravel_39 n k2 x1 x2 y0 y1 y2 S = some (v, S')) : z_At g M_X11_isGravel K 39 [some (.ref (z_ad g 48)), some (.int x1), some (.int x2), none, none] [.long y0, .long y1, .long y2] (hp g S) := by
  unfold f_X11_isGravel_39 at h
  obtain ⟨v1, S2, e3, h⟩ := g_bd_ex h
  refine q_csi (As := [.long y2, .long y1, .long y0]) cx mo_X11_within ms_X11_within tb_185 (by decide) rfl rfl (Nat.le_of_ble_eq_true rfl) dX11_isGravel_39 (c_X11_within y2 y1 y0 _ e3) ?_
  refine q_ifb_ne (tgt := 47) cx (by decide) dX11_isGravel_42 (fun c4 => ?_) (fun c4 => ?_)
  · have h := g_t c4 h
    refine z_iinc (c := 1) (L' := [some (.ref (z_ad g 48)), some (.int x1), some (.int (x2 + 1)), none, none]) cx rfl (by decide +kernel) (by decide) rfl dX11_isGravel_47 ?_
    refine z_goto (tgt := 2) cx (by decide) dX11_isGravel_50 ?_
    exact q_weak (z_wk_s (z_wk_s (z_wk_s (z_wk_n (z_wk_n (z_wk_0)))))) (hk2 x1 (x2 + 1) S2 h)
  · have h := g_f (Bool.eq_false_iff.mp c4) h
    refine z_iconst (v := 0) cx (by decide +kernel) dX11_isGravel_45 ?_
    obtain ⟨rfl, rfl⟩ := g_some h
    exact z_zreturn cx ce rfl (by decide +kernel) ⟨rfl, rfl⟩ dX11_isGravel_46
def f_X11_isGravel_2 (n : Nat) : Nat → Int32 → Int32 → z_Stt → Option (Bool × z_Stt)
  | 0, _, _, _ => none
  | m + 1, x1, x2, S =>
    if ¬ (x1 < 0 ∨ 6 ≤ x1.toNatClampNeg) then
      if S.2.2.1 67 x1.toNatClampNeg ≤ x2 then
        if ¬ (x1 < 0 ∨ 6 ≤ x1.toNatClampNeg) then
          if (S.2.2.1 67 x1.toNatClampNeg) % 2 = 0 then
            some (true, S)
          else
            some (false, S)
        else none
      else
        if ¬ ((60 * x1) + x2 < 0 ∨ 360 ≤ ((60 * x1) + x2).toNatClampNeg) then
          if x2 % 2 = 0 then
            f_X11_isGravel_39 n (f_X11_isGravel_2 n m) x1 x2 1 0 (S.2.2.2.1 68 ((60 * x1) + x2).toNatClampNeg) S
          else
            f_X11_isGravel_39 n (f_X11_isGravel_2 n m) x1 x2 99 0 (S.2.2.2.1 68 ((60 * x1) + x2).toNatClampNeg) S
        else none
    else none
set_option maxHeartbeats 4000000 in
set_option maxRecDepth 100000 in
theorem t_X11_isGravel_2 {g : z_G} {K : z_K} (n : Nat) {v : Bool} {S' : z_Stt} (cx : z_C g M_X11_isGravel 1 K) (ce : z_E' g M_X11_isGravel (z_P g (some (.int (bI v))) S') K) : ∀ (m : Nat) (x1 : Int32) (x2 : Int32) (S : z_Stt) (h : f_X11_isGravel_2 n m x1 x2 S = some (v, S')), z_At g M_X11_isGravel K 2 [some (.ref (z_ad g 48)), some (.int x1), some (.int x2), none, none] [] (hp g S) := by
  intro m
  induction m with
  | zero => intro x1 x2 S h; simp [f_X11_isGravel_2] at h
  | succ m ih =>
    intro x1 x2 S h
    rw [f_X11_isGravel_2] at h
    refine z_iload_n cx rfl rfl dX11_isGravel_2 ?_
    refine z_aload_n cx rfl rfl dX11_isGravel_3 ?_
    refine q_getF (k := 48) (n := 67) (r := 19) cx z_cl11 (j := 43) (by decide) tb_160 rfl (by decide) rfl rfl rfl dX11_isGravel_4 ?_
    refine z_iload_n cx rfl rfl dX11_isGravel_7 ?_
    obtain ⟨c1, h⟩ := g_if h
    refine q_iald cx (by decide) rfl c1 dX11_isGravel_8 ?_
    refine z_icmp_ge (tgt := 53) cx (by decide) dX11_isGravel_9 (fun c2 => ?_) (fun c2 => ?_)
    · have h := g_t c2 h
      refine z_aload_n cx rfl rfl dX11_isGravel_53 ?_
      refine q_getF (k := 48) (n := 67) (r := 19) cx z_cl11 (j := 43) (by decide) tb_160 rfl (by decide) rfl rfl rfl dX11_isGravel_54 ?_
      refine z_iload_n cx rfl rfl dX11_isGravel_57 ?_
      obtain ⟨c3, h⟩ := g_if h
      refine q_iald cx (by decide) rfl c3 dX11_isGravel_58 ?_
      refine z_iconst (v := 2) cx (by decide +kernel) dX11_isGravel_59 ?_
      refine z_irem cx (by decide +kernel) dX11_isGravel_60 ?_
      refine z_if_ne (tgt := 68) cx (by decide) dX11_isGravel_61 (fun c4 => ?_) (fun c4 => ?_)
      · have h := g_f c4 h
        refine z_iconst (v := 0) cx (by decide +kernel) dX11_isGravel_68 ?_
        obtain ⟨rfl, rfl⟩ := g_some h
        exact z_zreturn cx ce rfl (by decide +kernel) ⟨rfl, rfl⟩ dX11_isGravel_69
      · have h := g_t c4 h
        refine z_iconst (v := 1) cx (by decide +kernel) dX11_isGravel_64 ?_
        refine z_goto (tgt := 69) cx (by decide) dX11_isGravel_65 ?_
        obtain ⟨rfl, rfl⟩ := g_some h
        exact z_zreturn cx ce rfl (by decide +kernel) ⟨rfl, rfl⟩ dX11_isGravel_69
    · have h := g_f c2 h
      refine z_aload_n cx rfl rfl dX11_isGravel_12 ?_
      refine q_getF (k := 48) (n := 68) (r := 20) cx z_cl11 (j := 44) (by decide) tb_161 rfl (by decide) rfl rfl rfl dX11_isGravel_13 ?_
      refine z_bipush (v := 60) cx (by decide +kernel) dX11_isGravel_16 ?_
      refine z_iload_n cx rfl rfl dX11_isGravel_18 ?_
      refine z_imul cx dX11_isGravel_19 ?_
      refine z_iload_n cx rfl rfl dX11_isGravel_20 ?_
      refine z_iadd cx dX11_isGravel_21 ?_
      obtain ⟨c5, h⟩ := g_if h
      refine q_lald cx (by decide) rfl c5 dX11_isGravel_22 ?_
      refine z_lstore_n (L' := [some (.ref (z_ad g 48)), some (.int x1), some (.int x2), some (.long (S.2.2.2.1 68 ((60 * x1) + x2).toNatClampNeg)), none]) cx rfl (by decide) rfl dX11_isGravel_23 ?_
      refine z_lload_n cx rfl rfl dX11_isGravel_24 ?_
      refine z_lconst (v := 0) cx (by decide +kernel) dX11_isGravel_25 ?_
      refine z_iload_n cx rfl rfl dX11_isGravel_26 ?_
      refine z_iconst (v := 2) cx (by decide +kernel) dX11_isGravel_27 ?_
      refine z_irem cx (by decide +kernel) dX11_isGravel_28 ?_
      refine z_if_ne (tgt := 36) cx (by decide) dX11_isGravel_29 (fun c6 => ?_) (fun c6 => ?_)
      · have h := g_f c6 h
        refine z_ldc2 cx tb_547 dX11_isGravel_36 ?_
        exact q_weak (z_wk_s (z_wk_s (z_wk_s (z_wk_n (z_wk_n (z_wk_0)))))) (t_X11_isGravel_39 n cx ce (f_X11_isGravel_2 n m) ih x1 x2 99 0 (S.2.2.2.1 68 ((60 * x1) + x2).toNatClampNeg) S h)
      · have h := g_t c6 h
        refine z_lconst (v := 1) cx (by decide +kernel) dX11_isGravel_32 ?_
        refine z_goto (tgt := 39) cx (by decide) dX11_isGravel_33 ?_
        exact q_weak (z_wk_s (z_wk_s (z_wk_s (z_wk_n (z_wk_n (z_wk_0)))))) (t_X11_isGravel_39 n cx ce (f_X11_isGravel_2 n m) ih x1 x2 1 0 (S.2.2.2.1 68 ((60 * x1) + x2).toNatClampNeg) S h)
def f_X11_isGravel (n : Nat) (a0 : Int32) (S : z_Stt) : Option (Bool × z_Stt) :=
  f_X11_isGravel_2 n n a0 0 S
set_option maxHeartbeats 4000000 in
set_option maxRecDepth 100000 in
theorem t_X11_isGravel {g : z_G} {K : z_K} (n : Nat) {v : Bool} {S' : z_Stt} (cx : z_C g M_X11_isGravel 1 K) (ce : z_E' g M_X11_isGravel (z_P g (some (.int (bI v))) S') K) (a0 : Int32) (S : z_Stt) (h : f_X11_isGravel n a0 S = some (v, S')) : z_At g M_X11_isGravel K 0 [some (.ref (z_ad g 48)), some (.int a0), none, none, none] [] (hp g S) := by
  unfold f_X11_isGravel at h
  refine z_iconst (v := 0) cx (by decide +kernel) dX11_isGravel_0 ?_
  refine z_istore_n (L' := [some (.ref (z_ad g 48)), some (.int a0), some (.int 0), none, none]) cx rfl (by decide) rfl dX11_isGravel_1 ?_
  exact q_weak (z_wk_s (z_wk_s (z_wk_s (z_wk_n (z_wk_n (z_wk_0)))))) (t_X11_isGravel_2 n cx ce n a0 0 S h)
theorem c_X11_isGravel {g : z_G} {n : Nat} (a0 : Int32) (S : z_Stt) {v : Bool} {S' : z_Stt} (h : f_X11_isGravel n a0 S = some (v, S')) : z_Ct g M_X11_isGravel 1 [.ref (z_ad g 48), .int a0] (hp g S) (z_P g (some (.int (bI v))) S') :=
  z_Ct.of (by decide +kernel) rfl (Nat.le_of_ble_eq_true rfl) (fun K cx ce => q_weak (L' := [some (.ref (z_ad g 48)), some (.int a0), none, none, none]) (z_wk_s (z_wk_s (z_wk_e (z_wk_e (z_wk_e (z_wk_0)))))) (t_X11_isGravel n cx ce a0 S h))
abbrev M_X11_firstOther : z_M := (RX11, yX11_firstOther, cX11_firstOther, 6, some .int)
theorem mo_X11_firstOther : z_mo M_X11_firstOther 3 := ⟨tb_913, tb_5, rfl, ⟨by decide +kernel, by decide +kernel⟩, by decide +kernel, by decide⟩
theorem mv_X11_firstOther : z_mv M_X11_firstOther := ⟨tb_911, tb_912⟩
def f_X11_firstOther_67 (n : Nat) (k3 : Int32 → Int32 → Int32 → Int32 → z_Stt → Option (Int32 × z_Stt)) (x1 : Int32) (x2 : Int32) (x3 : Int32) (x4 : Int32) (y0 : Int32) (y1 : Int32) (S : z_Stt) : Option (Int32 × z_Stt) :=
  if y1 = y0 then
    k3 x1 x2 x3 (x4 + 1) S
  else
    some (x4, S)
set_option maxHeartbeats 4000000 in
set_option maxRecDepth 100000 in
theorem t_X11_firstOther_67 {g : z_G} {K : z_K} (n : Nat) {v : Int32} {S' : z_Stt} (cx : z_C g M_X11_firstOther 69 K) (ce : z_E' g M_X11_firstOther (z_P g (some (.int v)) S') K) (k3 : Int32 → Int32 → Int32 → Int32 → z_Stt → Option (Int32 × z_Stt)) (hk3 : ∀ (x1 : Int32) (x2 : Int32) (x3 : Int32) (x4 : Int32) (S : z_Stt), k3 x1 x2 x3 x4 S = some (v, S') → z_At g M_X11_firstOther K 3 [some (.ref (z_ad g 48)), some (.int x1), some (.int x2), some (.int x3), some (.int x4), none] [] (hp g S)) (x1 : Int32) (x2 : Int32) (x3 : Int32) (x4 : Int32) (y0 : Int32) (y1 : Int32) (S : z_Stt) (h : f_X11_firstOther_67 n k3 x1 x2 x3 x4 y0 y1 S = some (v, S')) : z_At g M_X11_firstOther K 67 [some (.ref (z_ad g 48)), some (.int x1), some (.int x2), some (.int x3), some (.int x4), none] [.int y0, .int y1] (hp g S) := by
  unfold f_X11_firstOther_67 at h
  refine z_icmp_eq (tgt := 73) cx (by decide) dX11_firstOther_67 (fun c1 => ?_) (fun c1 => ?_)
  · have h := g_t c1 h
    refine z_iinc (c := 1) (L' := [some (.ref (z_ad g 48)), some (.int x1), some (.int x2), some (.int x3), some (.int (x4 + 1)), none]) cx rfl (by decide +kernel) (by decide) rfl dX11_firstOther_73 ?_
    refine z_goto (tgt := 3) cx (by decide) dX11_firstOther_76 ?_
    exact q_weak (z_wk_s (z_wk_s (z_wk_s (z_wk_s (z_wk_s (z_wk_n (z_wk_0))))))) (hk3 x1 x2 x3 (x4 + 1) S h)
  · have h := g_f c1 h
    refine z_iload cx rfl dX11_firstOther_70 ?_
    obtain ⟨rfl, rfl⟩ := g_some h
    exact z_ireturn cx ce rfl ⟨rfl, rfl⟩ dX11_firstOther_72
def f_X11_firstOther_3 (n : Nat) : Nat → Int32 → Int32 → Int32 → Int32 → z_Stt → Option (Int32 × z_Stt)
  | 0, _, _, _, _, _ => none
  | m + 1, x1, x2, x3, x4, S =>
    if ¬ (x1 < 0 ∨ 6 ≤ x1.toNatClampNeg) then
      if S.2.2.1 67 x1.toNatClampNeg ≤ 2 * x4 then
        some ((-2), S)
      else
        if ¬ (((60 * x1) + (2 * x4)) + 1 < 0 ∨ 360 ≤ (((60 * x1) + (2 * x4)) + 1).toNatClampNeg) then
          g_bd (f_X11_goesBack n x3 (x2 / 10) (x2 % 10) (Int64.toInt32 (S.2.2.2.1 68 (((60 * x1) + (2 * x4)) + 1).toNatClampNeg)) S) fun v4 S5 =>
          if ¬ ((60 * x1) + (2 * x4) < 0 ∨ 360 ≤ ((60 * x1) + (2 * x4)).toNatClampNeg) then
            if lg_cmp (S5.2.2.2.1 68 ((60 * x1) + (2 * x4)).toNatClampNeg) 1 = 0 then
              f_X11_firstOther_67 n (f_X11_firstOther_3 n m) x1 x2 x3 x4 1 (bI v4) S5
            else
              f_X11_firstOther_67 n (f_X11_firstOther_3 n m) x1 x2 x3 x4 0 (bI v4) S5
          else none
        else none
    else none
set_option maxHeartbeats 4000000 in
set_option maxRecDepth 100000 in
theorem t_X11_firstOther_3 {g : z_G} {K : z_K} (n : Nat) {v : Int32} {S' : z_Stt} (cx : z_C g M_X11_firstOther 69 K) (ce : z_E' g M_X11_firstOther (z_P g (some (.int v)) S') K) : ∀ (m : Nat) (x1 : Int32) (x2 : Int32) (x3 : Int32) (x4 : Int32) (S : z_Stt) (h : f_X11_firstOther_3 n m x1 x2 x3 x4 S = some (v, S')), z_At g M_X11_firstOther K 3 [some (.ref (z_ad g 48)), some (.int x1), some (.int x2), some (.int x3), some (.int x4), none] [] (hp g S) := by
  intro m
  induction m with
  | zero => intro x1 x2 x3 x4 S h; simp [f_X11_firstOther_3] at h
  | succ m ih =>
    intro x1 x2 x3 x4 S h
    rw [f_X11_firstOther_3] at h
    refine z_iconst (v := 2) cx (by decide +kernel) dX11_firstOther_3 ?_
    refine z_iload cx rfl dX11_firstOther_4 ?_
    refine z_imul cx dX11_firstOther_6 ?_
    refine z_aload_n cx rfl rfl dX11_firstOther_7 ?_
    refine q_getF (k := 48) (n := 67) (r := 19) cx z_cl11 (j := 43) (by decide) tb_160 rfl (by decide) rfl rfl rfl dX11_firstOther_8 ?_
    refine z_iload_n cx rfl rfl dX11_firstOther_11 ?_
    obtain ⟨c1, h⟩ := g_if h
    refine q_iald cx (by decide) rfl c1 dX11_firstOther_12 ?_
    refine z_icmp_ge (tgt := 79) cx (by decide) dX11_firstOther_13 (fun c2 => ?_) (fun c2 => ?_)
    · have h := g_t c2 h
      refine z_bipush (v := (-2)) cx (by decide +kernel) dX11_firstOther_79 ?_
      obtain ⟨rfl, rfl⟩ := g_some h
      exact z_ireturn cx ce rfl ⟨rfl, rfl⟩ dX11_firstOther_81
    · have h := g_f c2 h
      refine z_bipush (v := 60) cx (by decide +kernel) dX11_firstOther_16 ?_
      refine z_iload_n cx rfl rfl dX11_firstOther_18 ?_
      refine z_imul cx dX11_firstOther_19 ?_
      refine z_iconst (v := 2) cx (by decide +kernel) dX11_firstOther_20 ?_
      refine z_iload cx rfl dX11_firstOther_21 ?_
      refine z_imul cx dX11_firstOther_23 ?_
      refine z_iadd cx dX11_firstOther_24 ?_
      refine z_istore (L' := [some (.ref (z_ad g 48)), some (.int x1), some (.int x2), some (.int x3), some (.int x4), some (.int ((60 * x1) + (2 * x4)))]) cx (by decide) rfl dX11_firstOther_25 ?_
      refine z_aload_n cx rfl rfl dX11_firstOther_27 ?_
      refine z_iload_n cx rfl rfl dX11_firstOther_28 ?_
      refine z_iload_n cx rfl rfl dX11_firstOther_29 ?_
      refine z_bipush (v := 10) cx (by decide +kernel) dX11_firstOther_30 ?_
      refine z_idiv cx (by decide +kernel) dX11_firstOther_32 ?_
      refine z_iload_n cx rfl rfl dX11_firstOther_33 ?_
      refine z_bipush (v := 10) cx (by decide +kernel) dX11_firstOther_34 ?_
      refine z_irem cx (by decide +kernel) dX11_firstOther_36 ?_
      refine z_aload_n cx rfl rfl dX11_firstOther_37 ?_
      refine q_getF (k := 48) (n := 68) (r := 20) cx z_cl11 (j := 44) (by decide) tb_161 rfl (by decide) rfl rfl rfl dX11_firstOther_38 ?_
      refine z_iload cx rfl dX11_firstOther_41 ?_
      refine z_iconst (v := 1) cx (by decide +kernel) dX11_firstOther_43 ?_
      refine z_iadd cx dX11_firstOther_44 ?_
      obtain ⟨c3, h⟩ := g_if h
      refine q_lald cx (by decide) rfl c3 dX11_firstOther_45 ?_
      refine z_l2i cx dX11_firstOther_46 ?_
      obtain ⟨v4, S5, e6, h⟩ := g_bd_ex h
      refine q_cvi (As := [.int x3, .int (x2 / 10), .int (x2 % 10), .int (Int64.toInt32 (S.2.2.2.1 68 (((60 * x1) + (2 * x4)) + 1).toNatClampNeg))]) cx mo_X11_goesBack mv_X11_goesBack z_cl11 rfl tb_879 (by decide) rfl (by decide) rfl rfl (Nat.le_of_ble_eq_true rfl) dX11_firstOther_47 (c_X11_goesBack x3 (x2 / 10) (x2 % 10) (Int64.toInt32 (S.2.2.2.1 68 (((60 * x1) + (2 * x4)) + 1).toNatClampNeg)) _ e6) ?_
      refine z_aload_n cx rfl rfl dX11_firstOther_50 ?_
      refine q_getF (k := 48) (n := 68) (r := 20) cx z_cl11 (j := 44) (by decide) tb_161 rfl (by decide) rfl rfl rfl dX11_firstOther_51 ?_
      refine z_iload cx rfl dX11_firstOther_54 ?_
      obtain ⟨c7, h⟩ := g_if h
      refine q_lald cx (by decide) rfl c7 dX11_firstOther_56 ?_
      refine z_lconst (v := 1) cx (by decide +kernel) dX11_firstOther_57 ?_
      refine z_lcmp cx dX11_firstOther_58 ?_
      refine z_if_ne (tgt := 66) cx (by decide) dX11_firstOther_59 (fun c8 => ?_) (fun c8 => ?_)
      · have h := g_f c8 h
        refine z_iconst (v := 0) cx (by decide +kernel) dX11_firstOther_66 ?_
        exact q_weak (z_wk_s (z_wk_s (z_wk_s (z_wk_s (z_wk_s (z_wk_n (z_wk_0))))))) (t_X11_firstOther_67 n cx ce (f_X11_firstOther_3 n m) ih x1 x2 x3 x4 0 (bI v4) S5 h)
      · have h := g_t c8 h
        refine z_iconst (v := 1) cx (by decide +kernel) dX11_firstOther_62 ?_
        refine z_goto (tgt := 67) cx (by decide) dX11_firstOther_63 ?_
        exact q_weak (z_wk_s (z_wk_s (z_wk_s (z_wk_s (z_wk_s (z_wk_n (z_wk_0))))))) (t_X11_firstOther_67 n cx ce (f_X11_firstOther_3 n m) ih x1 x2 x3 x4 1 (bI v4) S5 h)
def f_X11_firstOther (n : Nat) (a0 : Int32) (a1 : Int32) (a2 : Int32) (S : z_Stt) : Option (Int32 × z_Stt) :=
  f_X11_firstOther_3 n n a0 a1 a2 0 S
set_option maxHeartbeats 4000000 in
set_option maxRecDepth 100000 in
theorem t_X11_firstOther {g : z_G} {K : z_K} (n : Nat) {v : Int32} {S' : z_Stt} (cx : z_C g M_X11_firstOther 69 K) (ce : z_E' g M_X11_firstOther (z_P g (some (.int v)) S') K) (a0 : Int32) (a1 : Int32) (a2 : Int32) (S : z_Stt) (h : f_X11_firstOther n a0 a1 a2 S = some (v, S')) : z_At g M_X11_firstOther K 0 [some (.ref (z_ad g 48)), some (.int a0), some (.int a1), some (.int a2), none, none] [] (hp g S) := by
  unfold f_X11_firstOther at h
  refine z_iconst (v := 0) cx (by decide +kernel) dX11_firstOther_0 ?_
  refine z_istore (L' := [some (.ref (z_ad g 48)), some (.int a0), some (.int a1), some (.int a2), some (.int 0), none]) cx (by decide) rfl dX11_firstOther_1 ?_
  exact q_weak (z_wk_s (z_wk_s (z_wk_s (z_wk_s (z_wk_s (z_wk_n (z_wk_0))))))) (t_X11_firstOther_3 n cx ce n a0 a1 a2 0 S h)
theorem c_X11_firstOther {g : z_G} {n : Nat} (a0 : Int32) (a1 : Int32) (a2 : Int32) (S : z_Stt) {v : Int32} {S' : z_Stt} (h : f_X11_firstOther n a0 a1 a2 S = some (v, S')) : z_Ct g M_X11_firstOther 69 [.ref (z_ad g 48), .int a0, .int a1, .int a2] (hp g S) (z_P g (some (.int v)) S') :=
  z_Ct.of (by decide +kernel) rfl (Nat.le_of_ble_eq_true rfl) (fun K cx ce => q_weak (L' := [some (.ref (z_ad g 48)), some (.int a0), some (.int a1), some (.int a2), none, none]) (z_wk_s (z_wk_s (z_wk_s (z_wk_s (z_wk_e (z_wk_e (z_wk_0))))))) (t_X11_firstOther n cx ce a0 a1 a2 S h))
abbrev M_X11_isYesNo : z_M := (RX11, yX11_isYesNo, cX11_isYesNo, 2, some .boolean)
theorem mo_X11_isYesNo : z_mo M_X11_isYesNo 1 := ⟨tb_905, tb_5, rfl, ⟨by decide +kernel, by decide +kernel⟩, by decide +kernel, by decide⟩
theorem mv_X11_isYesNo : z_mv M_X11_isYesNo := ⟨tb_903, tb_904⟩
def f_X11_isYesNo (a0 : Int32) (S : z_Stt) : Option (Bool × z_Stt) :=
  g_bd (f_X11_isTr a0 S) fun v1 S2 =>
  if v1 = true then
    if 2 ≤ a0 % 10 then
      some (false, S2)
    else
      some (true, S2)
  else
    some (false, S2)
set_option maxHeartbeats 4000000 in
set_option maxRecDepth 100000 in
theorem t_X11_isYesNo {g : z_G} {K : z_K} {v : Bool} {S' : z_Stt} (cx : z_C g M_X11_isYesNo 3 K) (ce : z_E' g M_X11_isYesNo (z_P g (some (.int (bI v))) S') K) (a0 : Int32) (S : z_Stt) (h : f_X11_isYesNo a0 S = some (v, S')) : z_At g M_X11_isYesNo K 0 [some (.ref (z_ad g 48)), some (.int a0)] [] (hp g S) := by
  unfold f_X11_isYesNo at h
  refine z_aload_n cx rfl rfl dX11_isYesNo_0 ?_
  refine z_iload_n cx rfl rfl dX11_isYesNo_1 ?_
  obtain ⟨v1, S2, e3, h⟩ := g_bd_ex h
  refine q_cvi (As := [.int a0]) cx mo_X11_isTr mv_X11_isTr z_cl11 rfl tb_540 (by decide) rfl (by decide) rfl rfl (Nat.le_of_ble_eq_true rfl) dX11_isYesNo_2 (c_X11_isTr a0 _ e3) ?_
  refine q_ifb_eq (tgt := 20) cx (by decide) dX11_isYesNo_5 (fun c4 => ?_) (fun c4 => ?_)
  · have h := g_f (Bool.eq_false_iff.mp c4) h
    refine z_iconst (v := 0) cx (by decide +kernel) dX11_isYesNo_20 ?_
    obtain ⟨rfl, rfl⟩ := g_some h
    exact z_zreturn cx ce rfl (by decide +kernel) ⟨rfl, rfl⟩ dX11_isYesNo_21
  · have h := g_t c4 h
    refine z_iload_n cx rfl rfl dX11_isYesNo_8 ?_
    refine z_bipush (v := 10) cx (by decide +kernel) dX11_isYesNo_9 ?_
    refine z_irem cx (by decide +kernel) dX11_isYesNo_11 ?_
    refine z_iconst (v := 2) cx (by decide +kernel) dX11_isYesNo_12 ?_
    refine z_icmp_ge (tgt := 20) cx (by decide) dX11_isYesNo_13 (fun c5 => ?_) (fun c5 => ?_)
    · have h := g_t c5 h
      refine z_iconst (v := 0) cx (by decide +kernel) dX11_isYesNo_20 ?_
      obtain ⟨rfl, rfl⟩ := g_some h
      exact z_zreturn cx ce rfl (by decide +kernel) ⟨rfl, rfl⟩ dX11_isYesNo_21
    · have h := g_f c5 h
      refine z_iconst (v := 1) cx (by decide +kernel) dX11_isYesNo_16 ?_
      refine z_goto (tgt := 21) cx (by decide) dX11_isYesNo_17 ?_
      obtain ⟨rfl, rfl⟩ := g_some h
      exact z_zreturn cx ce rfl (by decide +kernel) ⟨rfl, rfl⟩ dX11_isYesNo_21
theorem c_X11_isYesNo {g : z_G} (a0 : Int32) (S : z_Stt) {v : Bool} {S' : z_Stt} (h : f_X11_isYesNo a0 S = some (v, S')) : z_Ct g M_X11_isYesNo 3 [.ref (z_ad g 48), .int a0] (hp g S) (z_P g (some (.int (bI v))) S') :=
  z_Ct.of (by decide +kernel) rfl (Nat.le_of_ble_eq_true rfl) (fun K cx ce => q_weak (L' := [some (.ref (z_ad g 48)), some (.int a0)]) (z_wk_s (z_wk_s (z_wk_0))) (t_X11_isYesNo cx ce a0 S h))
abbrev M_X11_fits : z_M := (RX11, yX11_fits, cX11_fits, 5, some .int)
theorem mo_X11_fits : z_mo M_X11_fits 2 := ⟨tb_901, tb_5, rfl, ⟨by decide +kernel, by decide +kernel⟩, by decide +kernel, by decide⟩
theorem mv_X11_fits : z_mv M_X11_fits := ⟨tb_899, tb_900⟩
def f_X11_fits_75 (n : Nat) (k49 : Int32 → Int32 → Int32 → Int32 → z_Stt → Option (Int32 × z_Stt)) (x1 : Int32) (x2 : Int32) (x4 : Int32) (y0 : Int32) (y1 : Int32) (S : z_Stt) : Option (Int32 × z_Stt) :=
  k49 x1 x2 (y1 ||| y0) (x4 + 1) S
set_option maxHeartbeats 4000000 in
set_option maxRecDepth 100000 in
theorem t_X11_fits_75 {g : z_G} {K : z_K} (n : Nat) {v : Int32} {S' : z_Stt} (cx : z_C g M_X11_fits 70 K) (ce : z_E' g M_X11_fits (z_P g (some (.int v)) S') K) (k49 : Int32 → Int32 → Int32 → Int32 → z_Stt → Option (Int32 × z_Stt)) (hk49 : ∀ (x1 : Int32) (x2 : Int32) (x3 : Int32) (x4 : Int32) (S : z_Stt), k49 x1 x2 x3 x4 S = some (v, S') → z_At g M_X11_fits K 49 [some (.ref (z_ad g 48)), some (.int x1), some (.int x2), some (.int x3), some (.int x4)] [] (hp g S)) (x1 : Int32) (x2 : Int32) (x4 : Int32) (y0 : Int32) (y1 : Int32) (S : z_Stt) (h : f_X11_fits_75 n k49 x1 x2 x4 y0 y1 S = some (v, S')) : z_At g M_X11_fits K 75 [some (.ref (z_ad g 48)), some (.int x1), some (.int x2), none, some (.int x4)] [.int y0, .int y1] (hp g S) := by
  unfold f_X11_fits_75 at h
  refine z_ior cx dX11_fits_75 ?_
  refine z_istore_n (L' := [some (.ref (z_ad g 48)), some (.int x1), some (.int x2), some (.int (y1 ||| y0)), some (.int x4)]) cx rfl (by decide) rfl dX11_fits_76 ?_
  refine z_iinc (c := 1) (L' := [some (.ref (z_ad g 48)), some (.int x1), some (.int x2), some (.int (y1 ||| y0)), some (.int (x4 + 1))]) cx rfl (by decide +kernel) (by decide) rfl dX11_fits_77 ?_
  refine z_goto (tgt := 49) cx (by decide) dX11_fits_80 ?_
  exact q_weak (z_wk_s (z_wk_s (z_wk_s (z_wk_s (z_wk_s (z_wk_0)))))) (hk49 x1 x2 (y1 ||| y0) (x4 + 1) S h)
def f_X11_fits_49 (n : Nat) : Nat → Int32 → Int32 → Int32 → Int32 → z_Stt → Option (Int32 × z_Stt)
  | 0, _, _, _, _, _ => none
  | m + 1, x1, x2, x3, x4, S =>
    if 5 ≤ x4 then
      some (x3, S)
    else
      g_bd (f_X11_firstOther n x1 x2 x4 S) fun v2 S3 =>
      if 0 ≤ v2 then
        f_X11_fits_75 n (f_X11_fits_49 n m) x1 x2 x4 0 x3 S3
      else
        f_X11_fits_75 n (f_X11_fits_49 n m) x1 x2 x4 (1 <<< (x4 &&& 31)) x3 S3
set_option maxHeartbeats 4000000 in
set_option maxRecDepth 100000 in
theorem t_X11_fits_49 {g : z_G} {K : z_K} (n : Nat) {v : Int32} {S' : z_Stt} (cx : z_C g M_X11_fits 70 K) (ce : z_E' g M_X11_fits (z_P g (some (.int v)) S') K) : ∀ (m : Nat) (x1 : Int32) (x2 : Int32) (x3 : Int32) (x4 : Int32) (S : z_Stt) (h : f_X11_fits_49 n m x1 x2 x3 x4 S = some (v, S')), z_At g M_X11_fits K 49 [some (.ref (z_ad g 48)), some (.int x1), some (.int x2), some (.int x3), some (.int x4)] [] (hp g S) := by
  intro m
  induction m with
  | zero => intro x1 x2 x3 x4 S h; simp [f_X11_fits_49] at h
  | succ m ih =>
    intro x1 x2 x3 x4 S h
    rw [f_X11_fits_49] at h
    refine z_iload cx rfl dX11_fits_49 ?_
    refine z_iconst (v := 5) cx (by decide +kernel) dX11_fits_51 ?_
    refine z_icmp_ge (tgt := 83) cx (by decide) dX11_fits_52 (fun c1 => ?_) (fun c1 => ?_)
    · have h := g_t c1 h
      refine z_iload_n cx rfl rfl dX11_fits_83 ?_
      obtain ⟨rfl, rfl⟩ := g_some h
      exact z_ireturn cx ce rfl ⟨rfl, rfl⟩ dX11_fits_84
    · have h := g_f c1 h
      refine z_iload_n cx rfl rfl dX11_fits_55 ?_
      refine z_aload_n cx rfl rfl dX11_fits_56 ?_
      refine z_iload_n cx rfl rfl dX11_fits_57 ?_
      refine z_iload_n cx rfl rfl dX11_fits_58 ?_
      refine z_iload cx rfl dX11_fits_59 ?_
      obtain ⟨v2, S3, e4, h⟩ := g_bd_ex h
      refine q_cvi (As := [.int x1, .int x2, .int x4]) cx mo_X11_firstOther mv_X11_firstOther z_cl11 rfl tb_910 (by decide) rfl (by decide) rfl rfl (Nat.le_of_ble_eq_true rfl) dX11_fits_61 (c_X11_firstOther x1 x2 x4 _ e4) ?_
      refine z_if_ge (tgt := 74) cx (by decide) dX11_fits_64 (fun c5 => ?_) (fun c5 => ?_)
      · have h := g_t c5 h
        refine z_iconst (v := 0) cx (by decide +kernel) dX11_fits_74 ?_
        exact q_weak (z_wk_s (z_wk_s (z_wk_s (z_wk_n (z_wk_s (z_wk_0)))))) (t_X11_fits_75 n cx ce (f_X11_fits_49 n m) ih x1 x2 x4 0 x3 S3 h)
      · have h := g_f c5 h
        refine z_iconst (v := 1) cx (by decide +kernel) dX11_fits_67 ?_
        refine z_iload cx rfl dX11_fits_68 ?_
        refine z_ishl cx dX11_fits_70 ?_
        refine z_goto (tgt := 75) cx (by decide) dX11_fits_71 ?_
        exact q_weak (z_wk_s (z_wk_s (z_wk_s (z_wk_n (z_wk_s (z_wk_0)))))) (t_X11_fits_75 n cx ce (f_X11_fits_49 n m) ih x1 x2 x4 (1 <<< (x4 &&& 31)) x3 S3 h)
def f_X11_fits (n : Nat) (a0 : Int32) (a1 : Int32) (S : z_Stt) : Option (Int32 × z_Stt) :=
  g_bd (f_X11_bytesIs a0 S) fun v1 S2 =>
  if v1 = (-1) then
    some ((-1), S2)
  else
    g_bd (f_X11_isYesNo a1 S2) fun v5 S6 =>
    if v5 = true then
      g_bd (f_X11_bytesIs a0 S6) fun v9 S10 =>
      if 0 ≤ v9 then
        g_bd (f_X11_isGravel n a0 S10) fun v13 S14 =>
        if v13 = true then
          f_X11_fits_49 n n a0 a1 0 0 S14
        else
          some ((-5), S14)
      else
        g_bd (f_X11_bytesIs a0 S10) fun v17 S18 =>
        some (v17, S18)
    else
      some ((-1), S6)
set_option maxHeartbeats 4000000 in
set_option maxRecDepth 100000 in
theorem t_X11_fits {g : z_G} {K : z_K} (n : Nat) {v : Int32} {S' : z_Stt} (cx : z_C g M_X11_fits 70 K) (ce : z_E' g M_X11_fits (z_P g (some (.int v)) S') K) (a0 : Int32) (a1 : Int32) (S : z_Stt) (h : f_X11_fits n a0 a1 S = some (v, S')) : z_At g M_X11_fits K 0 [some (.ref (z_ad g 48)), some (.int a0), some (.int a1), none, none] [] (hp g S) := by
  unfold f_X11_fits at h
  refine z_aload_n cx rfl rfl dX11_fits_0 ?_
  refine z_iload_n cx rfl rfl dX11_fits_1 ?_
  obtain ⟨v1, S2, e3, h⟩ := g_bd_ex h
  refine q_cvi (As := [.int a0]) cx mo_X11_bytesIs mv_X11_bytesIs z_cl11 rfl tb_803 (by decide) rfl (by decide) rfl rfl (Nat.le_of_ble_eq_true rfl) dX11_fits_2 (c_X11_bytesIs a0 _ e3) ?_
  refine z_iconst (v := (-1)) cx (by decide +kernel) dX11_fits_5 ?_
  refine z_icmp_eq (tgt := 17) cx (by decide) dX11_fits_6 (fun c4 => ?_) (fun c4 => ?_)
  · have h := g_t c4 h
    refine z_iconst (v := (-1)) cx (by decide +kernel) dX11_fits_17 ?_
    obtain ⟨rfl, rfl⟩ := g_some h
    exact z_ireturn cx ce rfl ⟨rfl, rfl⟩ dX11_fits_18
  · have h := g_f c4 h
    refine z_aload_n cx rfl rfl dX11_fits_9 ?_
    refine z_iload_n cx rfl rfl dX11_fits_10 ?_
    obtain ⟨v5, S6, e7, h⟩ := g_bd_ex h
    refine q_cvi (As := [.int a1]) cx mo_X11_isYesNo mv_X11_isYesNo z_cl11 rfl tb_902 (by decide) rfl (by decide) rfl rfl (Nat.le_of_ble_eq_true rfl) dX11_fits_11 (c_X11_isYesNo a1 _ e7) ?_
    refine q_ifb_ne (tgt := 19) cx (by decide) dX11_fits_14 (fun c8 => ?_) (fun c8 => ?_)
    · have h := g_t c8 h
      refine z_aload_n cx rfl rfl dX11_fits_19 ?_
      refine z_iload_n cx rfl rfl dX11_fits_20 ?_
      obtain ⟨v9, S10, e11, h⟩ := g_bd_ex h
      refine q_cvi (As := [.int a0]) cx mo_X11_bytesIs mv_X11_bytesIs z_cl11 rfl tb_803 (by decide) rfl (by decide) rfl rfl (Nat.le_of_ble_eq_true rfl) dX11_fits_21 (c_X11_bytesIs a0 _ e11) ?_
      refine z_if_ge (tgt := 33) cx (by decide) dX11_fits_24 (fun c12 => ?_) (fun c12 => ?_)
      · have h := g_t c12 h
        refine z_aload_n cx rfl rfl dX11_fits_33 ?_
        refine z_iload_n cx rfl rfl dX11_fits_34 ?_
        obtain ⟨v13, S14, e15, h⟩ := g_bd_ex h
        refine q_cvi (As := [.int a0]) cx mo_X11_isGravel mv_X11_isGravel z_cl11 rfl tb_906 (by decide) rfl (by decide) rfl rfl (Nat.le_of_ble_eq_true rfl) dX11_fits_35 (c_X11_isGravel a0 _ e15) ?_
        refine q_ifb_ne (tgt := 44) cx (by decide) dX11_fits_38 (fun c16 => ?_) (fun c16 => ?_)
        · have h := g_t c16 h
          refine z_iconst (v := 0) cx (by decide +kernel) dX11_fits_44 ?_
          refine z_istore_n (L' := [some (.ref (z_ad g 48)), some (.int a0), some (.int a1), some (.int 0), none]) cx rfl (by decide) rfl dX11_fits_45 ?_
          refine z_iconst (v := 0) cx (by decide +kernel) dX11_fits_46 ?_
          refine z_istore (L' := [some (.ref (z_ad g 48)), some (.int a0), some (.int a1), some (.int 0), some (.int 0)]) cx (by decide) rfl dX11_fits_47 ?_
          exact q_weak (z_wk_s (z_wk_s (z_wk_s (z_wk_s (z_wk_s (z_wk_0)))))) (t_X11_fits_49 n cx ce n a0 a1 0 0 S14 h)
        · have h := g_f (Bool.eq_false_iff.mp c16) h
          refine z_bipush (v := (-5)) cx (by decide +kernel) dX11_fits_41 ?_
          obtain ⟨rfl, rfl⟩ := g_some h
          exact z_ireturn cx ce rfl ⟨rfl, rfl⟩ dX11_fits_43
      · have h := g_f c12 h
        refine z_aload_n cx rfl rfl dX11_fits_27 ?_
        refine z_iload_n cx rfl rfl dX11_fits_28 ?_
        obtain ⟨v17, S18, e19, h⟩ := g_bd_ex h
        refine q_cvi (As := [.int a0]) cx mo_X11_bytesIs mv_X11_bytesIs z_cl11 rfl tb_803 (by decide) rfl (by decide) rfl rfl (Nat.le_of_ble_eq_true rfl) dX11_fits_29 (c_X11_bytesIs a0 _ e19) ?_
        obtain ⟨rfl, rfl⟩ := g_some h
        exact z_ireturn cx ce rfl ⟨rfl, rfl⟩ dX11_fits_32
    · have h := g_f (Bool.eq_false_iff.mp c8) h
      refine z_iconst (v := (-1)) cx (by decide +kernel) dX11_fits_17 ?_
      obtain ⟨rfl, rfl⟩ := g_some h
      exact z_ireturn cx ce rfl ⟨rfl, rfl⟩ dX11_fits_18
theorem c_X11_fits {g : z_G} {n : Nat} (a0 : Int32) (a1 : Int32) (S : z_Stt) {v : Int32} {S' : z_Stt} (h : f_X11_fits n a0 a1 S = some (v, S')) : z_Ct g M_X11_fits 70 [.ref (z_ad g 48), .int a0, .int a1] (hp g S) (z_P g (some (.int v)) S') :=
  z_Ct.of (by decide +kernel) rfl (Nat.le_of_ble_eq_true rfl) (fun K cx ce => q_weak (L' := [some (.ref (z_ad g 48)), some (.int a0), some (.int a1), none, none]) (z_wk_s (z_wk_s (z_wk_s (z_wk_e (z_wk_e (z_wk_0)))))) (t_X11_fits n cx ce a0 a1 S h))
abbrev M_X11_when : z_M := (RX11, yX11_when, cX11_when, 4, some .int)
theorem mo_X11_when : z_mo M_X11_when 3 := ⟨tb_921, tb_5, rfl, ⟨by decide +kernel, by decide +kernel⟩, by decide +kernel, by decide⟩
theorem mv_X11_when : z_mv M_X11_when := ⟨tb_919, tb_920⟩
def f_X11_when (n : Nat) (a0 : Int32) (a1 : Int32) (a2 : Int32) (S : z_Stt) : Option (Int32 × z_Stt) :=
  g_bd (f_X11_bytesIs a0 S) fun v1 S2 =>
  if v1 = (-1) then
    some ((-1), S2)
  else
    g_bd (f_X11_isYesNo a1 S2) fun v5 S6 =>
    if v5 = true then
      g_bd (f_X11_within (Int32.toInt64 a2) 0 4 S6) fun v9 S10 =>
      if v9 = true then
        g_bd (f_X11_bytesIs a0 S10) fun v13 S14 =>
        if 0 ≤ v13 then
          g_bd (f_X11_isGravel n a0 S14) fun v17 S18 =>
          if v17 = true then
            g_bd (f_X11_firstOther n a0 a1 a2 S18) fun v21 S22 =>
            some (v21, S22)
          else
            some ((-5), S18)
        else
          g_bd (f_X11_bytesIs a0 S14) fun v24 S25 =>
          some (v24, S25)
      else
        some ((-1), S10)
    else
      some ((-1), S6)
set_option maxHeartbeats 4000000 in
set_option maxRecDepth 100000 in
theorem t_X11_when {g : z_G} {K : z_K} (n : Nat) {v : Int32} {S' : z_Stt} (cx : z_C g M_X11_when 70 K) (ce : z_E' g M_X11_when (z_P g (some (.int v)) S') K) (a0 : Int32) (a1 : Int32) (a2 : Int32) (S : z_Stt) (h : f_X11_when n a0 a1 a2 S = some (v, S')) : z_At g M_X11_when K 0 [some (.ref (z_ad g 48)), some (.int a0), some (.int a1), some (.int a2)] [] (hp g S) := by
  unfold f_X11_when at h
  refine z_aload_n cx rfl rfl dX11_when_0 ?_
  refine z_iload_n cx rfl rfl dX11_when_1 ?_
  obtain ⟨v1, S2, e3, h⟩ := g_bd_ex h
  refine q_cvi (As := [.int a0]) cx mo_X11_bytesIs mv_X11_bytesIs z_cl11 rfl tb_803 (by decide) rfl (by decide) rfl rfl (Nat.le_of_ble_eq_true rfl) dX11_when_2 (c_X11_bytesIs a0 _ e3) ?_
  refine z_iconst (v := (-1)) cx (by decide +kernel) dX11_when_5 ?_
  refine z_icmp_eq (tgt := 29) cx (by decide) dX11_when_6 (fun c4 => ?_) (fun c4 => ?_)
  · have h := g_t c4 h
    refine z_iconst (v := (-1)) cx (by decide +kernel) dX11_when_29 ?_
    obtain ⟨rfl, rfl⟩ := g_some h
    exact z_ireturn cx ce rfl ⟨rfl, rfl⟩ dX11_when_30
  · have h := g_f c4 h
    refine z_aload_n cx rfl rfl dX11_when_9 ?_
    refine z_iload_n cx rfl rfl dX11_when_10 ?_
    obtain ⟨v5, S6, e7, h⟩ := g_bd_ex h
    refine q_cvi (As := [.int a1]) cx mo_X11_isYesNo mv_X11_isYesNo z_cl11 rfl tb_902 (by decide) rfl (by decide) rfl rfl (Nat.le_of_ble_eq_true rfl) dX11_when_11 (c_X11_isYesNo a1 _ e7) ?_
    refine q_ifb_eq (tgt := 29) cx (by decide) dX11_when_14 (fun c8 => ?_) (fun c8 => ?_)
    · have h := g_f (Bool.eq_false_iff.mp c8) h
      refine z_iconst (v := (-1)) cx (by decide +kernel) dX11_when_29 ?_
      obtain ⟨rfl, rfl⟩ := g_some h
      exact z_ireturn cx ce rfl ⟨rfl, rfl⟩ dX11_when_30
    · have h := g_t c8 h
      refine z_iload_n cx rfl rfl dX11_when_17 ?_
      refine z_i2l cx dX11_when_18 ?_
      refine z_lconst (v := 0) cx (by decide +kernel) dX11_when_19 ?_
      refine z_ldc2 cx tb_922 dX11_when_20 ?_
      obtain ⟨v9, S10, e11, h⟩ := g_bd_ex h
      refine q_csi (As := [.long (Int32.toInt64 a2), .long 0, .long 4]) cx mo_X11_within ms_X11_within tb_185 (by decide) rfl rfl (Nat.le_of_ble_eq_true rfl) dX11_when_23 (c_X11_within (Int32.toInt64 a2) 0 4 _ e11) ?_
      refine q_ifb_ne (tgt := 31) cx (by decide) dX11_when_26 (fun c12 => ?_) (fun c12 => ?_)
      · have h := g_t c12 h
        refine z_aload_n cx rfl rfl dX11_when_31 ?_
        refine z_iload_n cx rfl rfl dX11_when_32 ?_
        obtain ⟨v13, S14, e15, h⟩ := g_bd_ex h
        refine q_cvi (As := [.int a0]) cx mo_X11_bytesIs mv_X11_bytesIs z_cl11 rfl tb_803 (by decide) rfl (by decide) rfl rfl (Nat.le_of_ble_eq_true rfl) dX11_when_33 (c_X11_bytesIs a0 _ e15) ?_
        refine z_if_ge (tgt := 45) cx (by decide) dX11_when_36 (fun c16 => ?_) (fun c16 => ?_)
        · have h := g_t c16 h
          refine z_aload_n cx rfl rfl dX11_when_45 ?_
          refine z_iload_n cx rfl rfl dX11_when_46 ?_
          obtain ⟨v17, S18, e19, h⟩ := g_bd_ex h
          refine q_cvi (As := [.int a0]) cx mo_X11_isGravel mv_X11_isGravel z_cl11 rfl tb_906 (by decide) rfl (by decide) rfl rfl (Nat.le_of_ble_eq_true rfl) dX11_when_47 (c_X11_isGravel a0 _ e19) ?_
          refine q_ifb_eq (tgt := 63) cx (by decide) dX11_when_50 (fun c20 => ?_) (fun c20 => ?_)
          · have h := g_f (Bool.eq_false_iff.mp c20) h
            refine z_bipush (v := (-5)) cx (by decide +kernel) dX11_when_63 ?_
            obtain ⟨rfl, rfl⟩ := g_some h
            exact z_ireturn cx ce rfl ⟨rfl, rfl⟩ dX11_when_65
          · have h := g_t c20 h
            refine z_aload_n cx rfl rfl dX11_when_53 ?_
            refine z_iload_n cx rfl rfl dX11_when_54 ?_
            refine z_iload_n cx rfl rfl dX11_when_55 ?_
            refine z_iload_n cx rfl rfl dX11_when_56 ?_
            obtain ⟨v21, S22, e23, h⟩ := g_bd_ex h
            refine q_cvi (As := [.int a0, .int a1, .int a2]) cx mo_X11_firstOther mv_X11_firstOther z_cl11 rfl tb_910 (by decide) rfl (by decide) rfl rfl (Nat.le_of_ble_eq_true rfl) dX11_when_57 (c_X11_firstOther a0 a1 a2 _ e23) ?_
            refine z_goto (tgt := 65) cx (by decide) dX11_when_60 ?_
            obtain ⟨rfl, rfl⟩ := g_some h
            exact z_ireturn cx ce rfl ⟨rfl, rfl⟩ dX11_when_65
        · have h := g_f c16 h
          refine z_aload_n cx rfl rfl dX11_when_39 ?_
          refine z_iload_n cx rfl rfl dX11_when_40 ?_
          obtain ⟨v24, S25, e26, h⟩ := g_bd_ex h
          refine q_cvi (As := [.int a0]) cx mo_X11_bytesIs mv_X11_bytesIs z_cl11 rfl tb_803 (by decide) rfl (by decide) rfl rfl (Nat.le_of_ble_eq_true rfl) dX11_when_41 (c_X11_bytesIs a0 _ e26) ?_
          obtain ⟨rfl, rfl⟩ := g_some h
          exact z_ireturn cx ce rfl ⟨rfl, rfl⟩ dX11_when_44
      · have h := g_f (Bool.eq_false_iff.mp c12) h
        refine z_iconst (v := (-1)) cx (by decide +kernel) dX11_when_29 ?_
        obtain ⟨rfl, rfl⟩ := g_some h
        exact z_ireturn cx ce rfl ⟨rfl, rfl⟩ dX11_when_30
theorem c_X11_when {g : z_G} {n : Nat} (a0 : Int32) (a1 : Int32) (a2 : Int32) (S : z_Stt) {v : Int32} {S' : z_Stt} (h : f_X11_when n a0 a1 a2 S = some (v, S')) : z_Ct g M_X11_when 70 [.ref (z_ad g 48), .int a0, .int a1, .int a2] (hp g S) (z_P g (some (.int v)) S') :=
  z_Ct.of (by decide +kernel) rfl (Nat.le_of_ble_eq_true rfl) (fun K cx ce => q_weak (L' := [some (.ref (z_ad g 48)), some (.int a0), some (.int a1), some (.int a2)]) (z_wk_s (z_wk_s (z_wk_s (z_wk_s (z_wk_0))))) (t_X11_when n cx ce a0 a1 a2 S h))
abbrev M_X11_isSo : z_M := (RX11, yX11_isSo, cX11_isSo, 4, some .boolean)
theorem mo_X11_isSo : z_mo M_X11_isSo 2 := ⟨tb_938, tb_5, rfl, ⟨by decide +kernel, by decide +kernel⟩, by decide +kernel, by decide⟩
theorem mv_X11_isSo : z_mv M_X11_isSo := ⟨tb_936, tb_937⟩
def f_X11_isSo (a0 : Int32) (a1 : Int32) (S : z_Stt) : Option (Bool × z_Stt) :=
  if ¬ (a0 < 0 ∨ 6 ≤ a0.toNatClampNeg) then
    if (3 * a1) + 2 < S.2.2.1 67 a0.toNatClampNeg then
      if ¬ ((60 * a0) + (3 * a1) < 0 ∨ 360 ≤ ((60 * a0) + (3 * a1)).toNatClampNeg) then
        g_bd (f_X11_isThing (S.2.2.2.1 68 ((60 * a0) + (3 * a1)).toNatClampNeg) S) fun v4 S5 =>
        if v4 = true then
          if ¬ (((60 * a0) + (3 * a1)) + 1 < 0 ∨ 360 ≤ (((60 * a0) + (3 * a1)) + 1).toNatClampNeg) then
            g_bd (f_X11_within (S5.2.2.2.1 68 (((60 * a0) + (3 * a1)) + 1).toNatClampNeg) 0 1 S5) fun v9 S10 =>
            if v9 = true then
              if ¬ ((60 * a0) + (3 * a1) < 0 ∨ 360 ≤ ((60 * a0) + (3 * a1)).toNatClampNeg) then
                if ¬ (((60 * a0) + (3 * a1)) + 1 < 0 ∨ 360 ≤ (((60 * a0) + (3 * a1)) + 1).toNatClampNeg) then
                  g_bd (f_X11_asksOpen (Int64.toInt32 (S10.2.2.2.1 68 ((60 * a0) + (3 * a1)).toNatClampNeg)) (Int64.toInt32 (S10.2.2.2.1 68 (((60 * a0) + (3 * a1)) + 1).toNatClampNeg)) S10) fun v15 S16 =>
                  if v15 = true then
                    if ¬ S16.2.1 4812 = 0 then
                      if ¬ (((60 * a0) + (3 * a1)) + 2 < 0 ∨ 360 ≤ (((60 * a0) + (3 * a1)) + 2).toNatClampNeg) then
                        if lg_cmp ((144 * (S16.2.1 4811)) / (S16.2.1 4812)) (S16.2.2.2.1 68 (((60 * a0) + (3 * a1)) + 2).toNatClampNeg) = 0 then
                          some (true, S16)
                        else
                          some (false, S16)
                      else none
                    else none
                  else
                    some (false, S16)
                else none
              else none
            else
              some (false, S10)
          else none
        else
          some (false, S5)
      else none
    else
      some (false, S)
  else none
set_option maxHeartbeats 4000000 in
set_option maxRecDepth 100000 in
theorem t_X11_isSo {g : z_G} {K : z_K} {v : Bool} {S' : z_Stt} (cx : z_C g M_X11_isSo 3 K) (ce : z_E' g M_X11_isSo (z_P g (some (.int (bI v))) S') K) (a0 : Int32) (a1 : Int32) (S : z_Stt) (h : f_X11_isSo a0 a1 S = some (v, S')) : z_At g M_X11_isSo K 0 [some (.ref (z_ad g 48)), some (.int a0), some (.int a1), none] [] (hp g S) := by
  unfold f_X11_isSo at h
  refine z_iconst (v := 3) cx (by decide +kernel) dX11_isSo_0 ?_
  refine z_iload_n cx rfl rfl dX11_isSo_1 ?_
  refine z_imul cx dX11_isSo_2 ?_
  refine z_iconst (v := 2) cx (by decide +kernel) dX11_isSo_3 ?_
  refine z_iadd cx dX11_isSo_4 ?_
  refine z_aload_n cx rfl rfl dX11_isSo_5 ?_
  refine q_getF (k := 48) (n := 67) (r := 19) cx z_cl11 (j := 43) (by decide) tb_160 rfl (by decide) rfl rfl rfl dX11_isSo_6 ?_
  refine z_iload_n cx rfl rfl dX11_isSo_9 ?_
  obtain ⟨c1, h⟩ := g_if h
  refine q_iald cx (by decide) rfl c1 dX11_isSo_10 ?_
  refine z_icmp_lt (tgt := 16) cx (by decide) dX11_isSo_11 (fun c2 => ?_) (fun c2 => ?_)
  · have h := g_t c2 h
    refine z_bipush (v := 60) cx (by decide +kernel) dX11_isSo_16 ?_
    refine z_iload_n cx rfl rfl dX11_isSo_18 ?_
    refine z_imul cx dX11_isSo_19 ?_
    refine z_iconst (v := 3) cx (by decide +kernel) dX11_isSo_20 ?_
    refine z_iload_n cx rfl rfl dX11_isSo_21 ?_
    refine z_imul cx dX11_isSo_22 ?_
    refine z_iadd cx dX11_isSo_23 ?_
    refine z_istore_n (L' := [some (.ref (z_ad g 48)), some (.int a0), some (.int a1), some (.int ((60 * a0) + (3 * a1)))]) cx rfl (by decide) rfl dX11_isSo_24 ?_
    refine z_aload_n cx rfl rfl dX11_isSo_25 ?_
    refine z_aload_n cx rfl rfl dX11_isSo_26 ?_
    refine q_getF (k := 48) (n := 68) (r := 20) cx z_cl11 (j := 44) (by decide) tb_161 rfl (by decide) rfl rfl rfl dX11_isSo_27 ?_
    refine z_iload_n cx rfl rfl dX11_isSo_30 ?_
    obtain ⟨c3, h⟩ := g_if h
    refine q_lald cx (by decide) rfl c3 dX11_isSo_31 ?_
    obtain ⟨v4, S5, e6, h⟩ := g_bd_ex h
    refine q_cvi (As := [.long (S.2.2.2.1 68 ((60 * a0) + (3 * a1)).toNatClampNeg)]) cx mo_X11_isThing mv_X11_isThing z_cl11 rfl tb_274 (by decide) rfl (by decide) rfl rfl (Nat.le_of_ble_eq_true rfl) dX11_isSo_32 (c_X11_isThing (S.2.2.2.1 68 ((60 * a0) + (3 * a1)).toNatClampNeg) _ e6) ?_
    refine q_ifb_eq (tgt := 77) cx (by decide) dX11_isSo_35 (fun c7 => ?_) (fun c7 => ?_)
    · have h := g_f (Bool.eq_false_iff.mp c7) h
      refine z_iconst (v := 0) cx (by decide +kernel) dX11_isSo_77 ?_
      obtain ⟨rfl, rfl⟩ := g_some h
      exact z_zreturn cx ce rfl (by decide +kernel) ⟨rfl, rfl⟩ dX11_isSo_78
    · have h := g_t c7 h
      refine z_aload_n cx rfl rfl dX11_isSo_38 ?_
      refine q_getF (k := 48) (n := 68) (r := 20) cx z_cl11 (j := 44) (by decide) tb_161 rfl (by decide) rfl rfl rfl dX11_isSo_39 ?_
      refine z_iload_n cx rfl rfl dX11_isSo_42 ?_
      refine z_iconst (v := 1) cx (by decide +kernel) dX11_isSo_43 ?_
      refine z_iadd cx dX11_isSo_44 ?_
      obtain ⟨c8, h⟩ := g_if h
      refine q_lald cx (by decide) rfl c8 dX11_isSo_45 ?_
      refine z_lconst (v := 0) cx (by decide +kernel) dX11_isSo_46 ?_
      refine z_lconst (v := 1) cx (by decide +kernel) dX11_isSo_47 ?_
      obtain ⟨v9, S10, e11, h⟩ := g_bd_ex h
      refine q_csi (As := [.long (S5.2.2.2.1 68 (((60 * a0) + (3 * a1)) + 1).toNatClampNeg), .long 0, .long 1]) cx mo_X11_within ms_X11_within tb_185 (by decide) rfl rfl (Nat.le_of_ble_eq_true rfl) dX11_isSo_48 (c_X11_within (S5.2.2.2.1 68 (((60 * a0) + (3 * a1)) + 1).toNatClampNeg) 0 1 _ e11) ?_
      refine q_ifb_eq (tgt := 77) cx (by decide) dX11_isSo_51 (fun c12 => ?_) (fun c12 => ?_)
      · have h := g_f (Bool.eq_false_iff.mp c12) h
        refine z_iconst (v := 0) cx (by decide +kernel) dX11_isSo_77 ?_
        obtain ⟨rfl, rfl⟩ := g_some h
        exact z_zreturn cx ce rfl (by decide +kernel) ⟨rfl, rfl⟩ dX11_isSo_78
      · have h := g_t c12 h
        refine z_aload_n cx rfl rfl dX11_isSo_54 ?_
        refine z_aload_n cx rfl rfl dX11_isSo_55 ?_
        refine q_getF (k := 48) (n := 68) (r := 20) cx z_cl11 (j := 44) (by decide) tb_161 rfl (by decide) rfl rfl rfl dX11_isSo_56 ?_
        refine z_iload_n cx rfl rfl dX11_isSo_59 ?_
        obtain ⟨c13, h⟩ := g_if h
        refine q_lald cx (by decide) rfl c13 dX11_isSo_60 ?_
        refine z_l2i cx dX11_isSo_61 ?_
        refine z_aload_n cx rfl rfl dX11_isSo_62 ?_
        refine q_getF (k := 48) (n := 68) (r := 20) cx z_cl11 (j := 44) (by decide) tb_161 rfl (by decide) rfl rfl rfl dX11_isSo_63 ?_
        refine z_iload_n cx rfl rfl dX11_isSo_66 ?_
        refine z_iconst (v := 1) cx (by decide +kernel) dX11_isSo_67 ?_
        refine z_iadd cx dX11_isSo_68 ?_
        obtain ⟨c14, h⟩ := g_if h
        refine q_lald cx (by decide) rfl c14 dX11_isSo_69 ?_
        refine z_l2i cx dX11_isSo_70 ?_
        obtain ⟨v15, S16, e17, h⟩ := g_bd_ex h
        refine q_cvi (As := [.int (Int64.toInt32 (S10.2.2.2.1 68 ((60 * a0) + (3 * a1)).toNatClampNeg)), .int (Int64.toInt32 (S10.2.2.2.1 68 (((60 * a0) + (3 * a1)) + 1).toNatClampNeg))]) cx mo_X11_asksOpen mv_X11_asksOpen z_cl11 rfl tb_492 (by decide) rfl (by decide) rfl rfl (Nat.le_of_ble_eq_true rfl) dX11_isSo_71 (c_X11_asksOpen (Int64.toInt32 (S10.2.2.2.1 68 ((60 * a0) + (3 * a1)).toNatClampNeg)) (Int64.toInt32 (S10.2.2.2.1 68 (((60 * a0) + (3 * a1)) + 1).toNatClampNeg)) _ e17) ?_
        refine q_ifb_ne (tgt := 79) cx (by decide) dX11_isSo_74 (fun c18 => ?_) (fun c18 => ?_)
        · have h := g_t c18 h
          refine z_ldc2 cx tb_182 dX11_isSo_79 ?_
          refine z_aload_n cx rfl rfl dX11_isSo_82 ?_
          refine q_getJ (k := 48) (n := 4811) cx z_cl11 (j := 11) (by decide) tb_486 rfl (by decide) rfl rfl rfl dX11_isSo_83 ?_
          refine z_lmul cx dX11_isSo_86 ?_
          refine z_aload_n cx rfl rfl dX11_isSo_87 ?_
          refine q_getJ (k := 48) (n := 4812) cx z_cl11 (j := 12) (by decide) tb_487 rfl (by decide) rfl rfl rfl dX11_isSo_88 ?_
          obtain ⟨c19, h⟩ := g_if h
          refine z_ldiv cx c19 dX11_isSo_91 ?_
          refine z_aload_n cx rfl rfl dX11_isSo_92 ?_
          refine q_getF (k := 48) (n := 68) (r := 20) cx z_cl11 (j := 44) (by decide) tb_161 rfl (by decide) rfl rfl rfl dX11_isSo_93 ?_
          refine z_iload_n cx rfl rfl dX11_isSo_96 ?_
          refine z_iconst (v := 2) cx (by decide +kernel) dX11_isSo_97 ?_
          refine z_iadd cx dX11_isSo_98 ?_
          obtain ⟨c20, h⟩ := g_if h
          refine q_lald cx (by decide) rfl c20 dX11_isSo_99 ?_
          refine z_lcmp cx dX11_isSo_100 ?_
          refine z_if_ne (tgt := 108) cx (by decide) dX11_isSo_101 (fun c21 => ?_) (fun c21 => ?_)
          · have h := g_f c21 h
            refine z_iconst (v := 0) cx (by decide +kernel) dX11_isSo_108 ?_
            obtain ⟨rfl, rfl⟩ := g_some h
            exact z_zreturn cx ce rfl (by decide +kernel) ⟨rfl, rfl⟩ dX11_isSo_109
          · have h := g_t c21 h
            refine z_iconst (v := 1) cx (by decide +kernel) dX11_isSo_104 ?_
            refine z_goto (tgt := 109) cx (by decide) dX11_isSo_105 ?_
            obtain ⟨rfl, rfl⟩ := g_some h
            exact z_zreturn cx ce rfl (by decide +kernel) ⟨rfl, rfl⟩ dX11_isSo_109
        · have h := g_f (Bool.eq_false_iff.mp c18) h
          refine z_iconst (v := 0) cx (by decide +kernel) dX11_isSo_77 ?_
          obtain ⟨rfl, rfl⟩ := g_some h
          exact z_zreturn cx ce rfl (by decide +kernel) ⟨rfl, rfl⟩ dX11_isSo_78
  · have h := g_f c2 h
    refine z_iconst (v := 0) cx (by decide +kernel) dX11_isSo_14 ?_
    obtain ⟨rfl, rfl⟩ := g_some h
    exact z_zreturn cx ce rfl (by decide +kernel) ⟨rfl, rfl⟩ dX11_isSo_15
theorem c_X11_isSo {g : z_G} (a0 : Int32) (a1 : Int32) (S : z_Stt) {v : Bool} {S' : z_Stt} (h : f_X11_isSo a0 a1 S = some (v, S')) : z_Ct g M_X11_isSo 3 [.ref (z_ad g 48), .int a0, .int a1] (hp g S) (z_P g (some (.int (bI v))) S') :=
  z_Ct.of (by decide +kernel) rfl (Nat.le_of_ble_eq_true rfl) (fun K cx ce => q_weak (L' := [some (.ref (z_ad g 48)), some (.int a0), some (.int a1), none]) (z_wk_s (z_wk_s (z_wk_s (z_wk_e (z_wk_0))))) (t_X11_isSo cx ce a0 a1 S h))
abbrev M_X11_judge : z_M := (RX11, yX11_judge, cX11_judge, 3, some .int)
theorem mo_X11_judge : z_mo M_X11_judge 1 := ⟨tb_934, tb_5, rfl, ⟨by decide +kernel, by decide +kernel⟩, by decide +kernel, by decide⟩
theorem mv_X11_judge : z_mv M_X11_judge := ⟨tb_932, tb_933⟩
def f_X11_judge_37 (n : Nat) : Nat → Int32 → Int32 → z_Stt → Option (Int32 × z_Stt)
  | 0, _, _, _ => none
  | m + 1, x1, x2, S =>
    if ¬ (x1 < 0 ∨ 6 ≤ x1.toNatClampNeg) then
      if S.2.2.1 67 x1.toNatClampNeg ≤ 3 * x2 then
        some ((-2), S)
      else
        g_bd (f_X11_isSo x1 x2 S) fun v3 S4 =>
        if v3 = true then
          f_X11_judge_37 n m x1 (x2 + 1) S4
        else
          some (x2, S4)
    else none
set_option maxHeartbeats 4000000 in
set_option maxRecDepth 100000 in
theorem t_X11_judge_37 {g : z_G} {K : z_K} (n : Nat) {v : Int32} {S' : z_Stt} (cx : z_C g M_X11_judge 4 K) (ce : z_E' g M_X11_judge (z_P g (some (.int v)) S') K) : ∀ (m : Nat) (x1 : Int32) (x2 : Int32) (S : z_Stt) (h : f_X11_judge_37 n m x1 x2 S = some (v, S')), z_At g M_X11_judge K 37 [some (.ref (z_ad g 48)), some (.int x1), some (.int x2)] [] (hp g S) := by
  intro m
  induction m with
  | zero => intro x1 x2 S h; simp [f_X11_judge_37] at h
  | succ m ih =>
    intro x1 x2 S h
    rw [f_X11_judge_37] at h
    refine z_iconst (v := 3) cx (by decide +kernel) dX11_judge_37 ?_
    refine z_iload_n cx rfl rfl dX11_judge_38 ?_
    refine z_imul cx dX11_judge_39 ?_
    refine z_aload_n cx rfl rfl dX11_judge_40 ?_
    refine q_getF (k := 48) (n := 67) (r := 19) cx z_cl11 (j := 43) (by decide) tb_160 rfl (by decide) rfl rfl rfl dX11_judge_41 ?_
    refine z_iload_n cx rfl rfl dX11_judge_44 ?_
    obtain ⟨c1, h⟩ := g_if h
    refine q_iald cx (by decide) rfl c1 dX11_judge_45 ?_
    refine z_icmp_ge (tgt := 66) cx (by decide) dX11_judge_46 (fun c2 => ?_) (fun c2 => ?_)
    · have h := g_t c2 h
      refine z_bipush (v := (-2)) cx (by decide +kernel) dX11_judge_66 ?_
      obtain ⟨rfl, rfl⟩ := g_some h
      exact z_ireturn cx ce rfl ⟨rfl, rfl⟩ dX11_judge_68
    · have h := g_f c2 h
      refine z_aload_n cx rfl rfl dX11_judge_49 ?_
      refine z_iload_n cx rfl rfl dX11_judge_50 ?_
      refine z_iload_n cx rfl rfl dX11_judge_51 ?_
      obtain ⟨v3, S4, e5, h⟩ := g_bd_ex h
      refine q_cvi (As := [.int x1, .int x2]) cx mo_X11_isSo mv_X11_isSo z_cl11 rfl tb_935 (by decide) rfl (by decide) rfl rfl (Nat.le_of_ble_eq_true rfl) dX11_judge_52 (c_X11_isSo x1 x2 _ e5) ?_
      refine q_ifb_ne (tgt := 60) cx (by decide) dX11_judge_55 (fun c6 => ?_) (fun c6 => ?_)
      · have h := g_t c6 h
        refine z_iinc (c := 1) (L' := [some (.ref (z_ad g 48)), some (.int x1), some (.int (x2 + 1))]) cx rfl (by decide +kernel) (by decide) rfl dX11_judge_60 ?_
        refine z_goto (tgt := 37) cx (by decide) dX11_judge_63 ?_
        exact q_weak (z_wk_s (z_wk_s (z_wk_s (z_wk_0)))) (ih x1 (x2 + 1) S4 h)
      · have h := g_f (Bool.eq_false_iff.mp c6) h
        refine z_iload_n cx rfl rfl dX11_judge_58 ?_
        obtain ⟨rfl, rfl⟩ := g_some h
        exact z_ireturn cx ce rfl ⟨rfl, rfl⟩ dX11_judge_59
def f_X11_judge (n : Nat) (a0 : Int32) (S : z_Stt) : Option (Int32 × z_Stt) :=
  g_bd (f_X11_isShelf a0 S) fun v1 S2 =>
  if v1 = true then
    if ¬ (a0 < 0 ∨ 6 ≤ a0.toNatClampNeg) then
      if 0 ≤ S2.2.2.1 66 a0.toNatClampNeg then
        if ¬ (a0 < 0 ∨ 6 ≤ a0.toNatClampNeg) then
          if S2.2.2.1 66 a0.toNatClampNeg = 51 then
            f_X11_judge_37 n n a0 0 S2
          else
            some ((-12), S2)
        else none
      else
        some ((-11), S2)
    else none
  else
    some ((-1), S2)
set_option maxHeartbeats 4000000 in
set_option maxRecDepth 100000 in
theorem t_X11_judge {g : z_G} {K : z_K} (n : Nat) {v : Int32} {S' : z_Stt} (cx : z_C g M_X11_judge 4 K) (ce : z_E' g M_X11_judge (z_P g (some (.int v)) S') K) (a0 : Int32) (S : z_Stt) (h : f_X11_judge n a0 S = some (v, S')) : z_At g M_X11_judge K 0 [some (.ref (z_ad g 48)), some (.int a0), none] [] (hp g S) := by
  unfold f_X11_judge at h
  refine z_iload_n cx rfl rfl dX11_judge_0 ?_
  obtain ⟨v1, S2, e3, h⟩ := g_bd_ex h
  refine q_csi (As := [.int a0]) cx mo_X11_isShelf ms_X11_isShelf tb_222 (by decide) rfl rfl (Nat.le_of_ble_eq_true rfl) dX11_judge_1 (c_X11_isShelf a0 _ e3) ?_
  refine q_ifb_ne (tgt := 9) cx (by decide) dX11_judge_4 (fun c4 => ?_) (fun c4 => ?_)
  · have h := g_t c4 h
    refine z_aload_n cx rfl rfl dX11_judge_9 ?_
    refine q_getF (k := 48) (n := 66) (r := 18) cx z_cl11 (j := 42) (by decide) tb_159 rfl (by decide) rfl rfl rfl dX11_judge_10 ?_
    refine z_iload_n cx rfl rfl dX11_judge_13 ?_
    obtain ⟨c5, h⟩ := g_if h
    refine q_iald cx (by decide) rfl c5 dX11_judge_14 ?_
    refine z_if_ge (tgt := 21) cx (by decide) dX11_judge_15 (fun c6 => ?_) (fun c6 => ?_)
    · have h := g_t c6 h
      refine z_aload_n cx rfl rfl dX11_judge_21 ?_
      refine q_getF (k := 48) (n := 66) (r := 18) cx z_cl11 (j := 42) (by decide) tb_159 rfl (by decide) rfl rfl rfl dX11_judge_22 ?_
      refine z_iload_n cx rfl rfl dX11_judge_25 ?_
      obtain ⟨c7, h⟩ := g_if h
      refine q_iald cx (by decide) rfl c7 dX11_judge_26 ?_
      refine z_bipush (v := 51) cx (by decide +kernel) dX11_judge_27 ?_
      refine z_icmp_eq (tgt := 35) cx (by decide) dX11_judge_29 (fun c8 => ?_) (fun c8 => ?_)
      · have h := g_t c8 h
        refine z_iconst (v := 0) cx (by decide +kernel) dX11_judge_35 ?_
        refine z_istore_n (L' := [some (.ref (z_ad g 48)), some (.int a0), some (.int 0)]) cx rfl (by decide) rfl dX11_judge_36 ?_
        exact q_weak (z_wk_s (z_wk_s (z_wk_s (z_wk_0)))) (t_X11_judge_37 n cx ce n a0 0 S2 h)
      · have h := g_f c8 h
        refine z_bipush (v := (-12)) cx (by decide +kernel) dX11_judge_32 ?_
        obtain ⟨rfl, rfl⟩ := g_some h
        exact z_ireturn cx ce rfl ⟨rfl, rfl⟩ dX11_judge_34
    · have h := g_f c6 h
      refine z_bipush (v := (-11)) cx (by decide +kernel) dX11_judge_18 ?_
      obtain ⟨rfl, rfl⟩ := g_some h
      exact z_ireturn cx ce rfl ⟨rfl, rfl⟩ dX11_judge_20
  · have h := g_f (Bool.eq_false_iff.mp c4) h
    refine z_iconst (v := (-1)) cx (by decide +kernel) dX11_judge_7 ?_
    obtain ⟨rfl, rfl⟩ := g_some h
    exact z_ireturn cx ce rfl ⟨rfl, rfl⟩ dX11_judge_8
theorem c_X11_judge {g : z_G} {n : Nat} (a0 : Int32) (S : z_Stt) {v : Int32} {S' : z_Stt} (h : f_X11_judge n a0 S = some (v, S')) : z_Ct g M_X11_judge 4 [.ref (z_ad g 48), .int a0] (hp g S) (z_P g (some (.int v)) S') :=
  z_Ct.of (by decide +kernel) rfl (Nat.le_of_ble_eq_true rfl) (fun K cx ce => q_weak (L' := [some (.ref (z_ad g 48)), some (.int a0), none]) (z_wk_s (z_wk_s (z_wk_e (z_wk_0)))) (t_X11_judge n cx ce a0 S h))
abbrev M_X11_morning : z_M := (RX11, yX11_morning, cX11_morning, 4, some .int)
theorem mo_X11_morning : z_mo M_X11_morning 2 := ⟨tb_953, tb_5, rfl, ⟨by decide +kernel, by decide +kernel⟩, by decide +kernel, by decide⟩
theorem mv_X11_morning : z_mv M_X11_morning := ⟨tb_951, tb_952⟩
def f_X11_morning_124 (x1 : Int32) (x3 : Int32) (y0 : Int32) (y1 : Int32) (y2 : Int32) (S : z_Stt) : Option (Int32 × z_Stt) :=
  if ¬ (y2 < 0 ∨ 6 ≤ y2.toNatClampNeg) then
    g_let (sA S 53 (upd (S.2.2.1 53) y2.toNatClampNeg (y1 + y0))) fun S2 =>
    if ¬ (x1 < 0 ∨ 6 ≤ x1.toNatClampNeg) then
      g_let (sA S2 54 (upd (S2.2.2.1 54) x1.toNatClampNeg 1)) fun S5 =>
      some (x3, S5)
    else none
  else none
set_option maxHeartbeats 4000000 in
set_option maxRecDepth 100000 in
theorem t_X11_morning_124 {g : z_G} {K : z_K} {v : Int32} {S' : z_Stt} (cx : z_C g M_X11_morning 2 K) (ce : z_E' g M_X11_morning (z_P g (some (.int v)) S') K) (x1 : Int32) (x3 : Int32) (y0 : Int32) (y1 : Int32) (y2 : Int32) (S : z_Stt) (h : f_X11_morning_124 x1 x3 y0 y1 y2 S = some (v, S')) : z_At g M_X11_morning K 124 [some (.ref (z_ad g 48)), some (.int x1), none, some (.int x3)] [.int y0, .int y1, .int y2, .ref (z_ad g 53)] (hp g S) := by
  unfold f_X11_morning_124 at h
  refine z_iadd cx dX11_morning_124 ?_
  obtain ⟨c1, h⟩ := g_if h
  refine q_iast cx (by decide) rfl c1 dX11_morning_125 ?_
  obtain ⟨S2, e3, h⟩ := g_let_ex h
  rw [← e3]
  refine z_aload_n cx rfl rfl dX11_morning_126 ?_
  refine q_getF (k := 48) (n := 54) (r := 6) cx z_cl11 (j := 8) (by decide) tb_147 rfl (by decide) rfl rfl rfl dX11_morning_127 ?_
  refine z_iload_n cx rfl rfl dX11_morning_130 ?_
  refine z_iconst (v := 1) cx (by decide +kernel) dX11_morning_131 ?_
  obtain ⟨c4, h⟩ := g_if h
  refine q_zast cx (by decide) rfl c4 (by decide +kernel) dX11_morning_132 ?_
  obtain ⟨S5, e6, h⟩ := g_let_ex h
  rw [← e6]
  refine z_iload_n cx rfl rfl dX11_morning_133 ?_
  obtain ⟨rfl, rfl⟩ := g_some h
  exact z_ireturn cx ce rfl ⟨rfl, rfl⟩ dX11_morning_134
def f_X11_morning_85 (x1 : Int32) (y0 : Int32) (S : z_Stt) : Option (Int32 × z_Stt) :=
  g_let (sI S 4830 x1) fun S1 =>
  g_bd (f_X11_numberOf x1 4 S1) fun v3 S4 =>
  if v3 = 1 then
    if ¬ (x1 < 0 ∨ 6 ≤ x1.toNatClampNeg) then
      if ¬ (x1 < 0 ∨ 6 ≤ x1.toNatClampNeg) then
        if 12 ≤ S4.2.2.1 53 x1.toNatClampNeg then
          f_X11_morning_124 x1 y0 0 (S4.2.2.1 53 x1.toNatClampNeg) x1 S4
        else
          f_X11_morning_124 x1 y0 1 (S4.2.2.1 53 x1.toNatClampNeg) x1 S4
      else none
    else none
  else
    some (y0, S4)
set_option maxHeartbeats 4000000 in
set_option maxRecDepth 100000 in
theorem t_X11_morning_85 {g : z_G} {K : z_K} {v : Int32} {S' : z_Stt} (cx : z_C g M_X11_morning 2 K) (ce : z_E' g M_X11_morning (z_P g (some (.int v)) S') K) (x1 : Int32) (y0 : Int32) (S : z_Stt) (h : f_X11_morning_85 x1 y0 S = some (v, S')) : z_At g M_X11_morning K 85 [some (.ref (z_ad g 48)), some (.int x1), none, none] [.int y0] (hp g S) := by
  unfold f_X11_morning_85 at h
  refine z_istore_n (L' := [some (.ref (z_ad g 48)), some (.int x1), none, some (.int y0)]) cx rfl (by decide) rfl dX11_morning_85 ?_
  refine z_aload_n cx rfl rfl dX11_morning_86 ?_
  refine z_iload_n cx rfl rfl dX11_morning_87 ?_
  refine q_putI (k := 48) (n := 4830) cx z_cl11 (j := 30) (by decide) tb_164 rfl rfl rfl (by decide) rfl rfl rfl (by decide) (by decide) dX11_morning_88 ?_
  obtain ⟨S1, e2, h⟩ := g_let_ex h
  rw [← e2]
  refine z_aload_n cx rfl rfl dX11_morning_91 ?_
  refine z_iload_n cx rfl rfl dX11_morning_92 ?_
  refine z_iconst (v := 4) cx (by decide +kernel) dX11_morning_93 ?_
  obtain ⟨v3, S4, e5, h⟩ := g_bd_ex h
  refine q_cvi (As := [.int x1, .int 4]) cx mo_X11_numberOf mv_X11_numberOf z_cl11 rfl tb_496 (by decide) rfl (by decide) rfl rfl (Nat.le_of_ble_eq_true rfl) dX11_morning_94 (c_X11_numberOf x1 4 _ e5) ?_
  refine z_iconst (v := 1) cx (by decide +kernel) dX11_morning_97 ?_
  refine z_icmp_ne (tgt := 133) cx (by decide) dX11_morning_98 (fun c6 => ?_) (fun c6 => ?_)
  · have h := g_f c6 h
    refine z_iload_n cx rfl rfl dX11_morning_133 ?_
    obtain ⟨rfl, rfl⟩ := g_some h
    exact z_ireturn cx ce rfl ⟨rfl, rfl⟩ dX11_morning_134
  · have h := g_t c6 h
    refine z_aload_n cx rfl rfl dX11_morning_101 ?_
    refine q_getF (k := 48) (n := 53) (r := 5) cx z_cl11 (j := 7) (by decide) tb_145 rfl (by decide) rfl rfl rfl dX11_morning_102 ?_
    refine z_iload_n cx rfl rfl dX11_morning_105 ?_
    refine z_dup2_11 cx rfl rfl dX11_morning_106 ?_
    obtain ⟨c7, h⟩ := g_if h
    refine q_iald cx (by decide) rfl c7 dX11_morning_107 ?_
    refine z_aload_n cx rfl rfl dX11_morning_108 ?_
    refine q_getF (k := 48) (n := 53) (r := 5) cx z_cl11 (j := 7) (by decide) tb_145 rfl (by decide) rfl rfl rfl dX11_morning_109 ?_
    refine z_iload_n cx rfl rfl dX11_morning_112 ?_
    obtain ⟨c8, h⟩ := g_if h
    refine q_iald cx (by decide) rfl c8 dX11_morning_113 ?_
    refine z_bipush (v := 12) cx (by decide +kernel) dX11_morning_114 ?_
    refine z_icmp_ge (tgt := 123) cx (by decide) dX11_morning_116 (fun c9 => ?_) (fun c9 => ?_)
    · have h := g_t c9 h
      refine z_iconst (v := 0) cx (by decide +kernel) dX11_morning_123 ?_
      exact q_weak (z_wk_s (z_wk_s (z_wk_n (z_wk_s (z_wk_0))))) (t_X11_morning_124 cx ce x1 y0 0 (S4.2.2.1 53 x1.toNatClampNeg) x1 S4 h)
    · have h := g_f c9 h
      refine z_iconst (v := 1) cx (by decide +kernel) dX11_morning_119 ?_
      refine z_goto (tgt := 124) cx (by decide) dX11_morning_120 ?_
      exact q_weak (z_wk_s (z_wk_s (z_wk_n (z_wk_s (z_wk_0))))) (t_X11_morning_124 cx ce x1 y0 1 (S4.2.2.1 53 x1.toNatClampNeg) x1 S4 h)
def f_X11_morning_77 (x1 : Int32) (y0 : Int32) (y1 : Int32) (S : z_Stt) : Option (Int32 × z_Stt) :=
  if y0 ≤ y1 then
    f_X11_morning_85 x1 0 S
  else
    f_X11_morning_85 x1 1 S
set_option maxHeartbeats 4000000 in
set_option maxRecDepth 100000 in
theorem t_X11_morning_77 {g : z_G} {K : z_K} {v : Int32} {S' : z_Stt} (cx : z_C g M_X11_morning 2 K) (ce : z_E' g M_X11_morning (z_P g (some (.int v)) S') K) (x1 : Int32) (y0 : Int32) (y1 : Int32) (S : z_Stt) (h : f_X11_morning_77 x1 y0 y1 S = some (v, S')) : z_At g M_X11_morning K 77 [some (.ref (z_ad g 48)), some (.int x1), none, none] [.int y0, .int y1] (hp g S) := by
  unfold f_X11_morning_77 at h
  refine z_icmp_ge (tgt := 84) cx (by decide) dX11_morning_77 (fun c1 => ?_) (fun c1 => ?_)
  · have h := g_t c1 h
    refine z_iconst (v := 0) cx (by decide +kernel) dX11_morning_84 ?_
    exact q_weak (z_wk_s (z_wk_s (z_wk_n (z_wk_n (z_wk_0))))) (t_X11_morning_85 cx ce x1 0 S h)
  · have h := g_f c1 h
    refine z_iconst (v := 1) cx (by decide +kernel) dX11_morning_80 ?_
    refine z_goto (tgt := 85) cx (by decide) dX11_morning_81 ?_
    exact q_weak (z_wk_s (z_wk_s (z_wk_n (z_wk_n (z_wk_0))))) (t_X11_morning_85 cx ce x1 1 S h)
def f_X11_morning_48 (x1 : Int32) (y0 : Int32) (S : z_Stt) : Option (Int32 × z_Stt) :=
  if y0 = 0 ∨ y0 = 1 then
    g_let (sI S 4831 y0) fun S2 =>
    g_bd (f_X11_draws 12 S2) fun v4 S5 =>
    if S5.1 4831 = 0 then
      g_bd (f_X11_traceOf x1 S5) fun v8 S9 =>
      f_X11_morning_77 x1 v8 v4 S9
    else
      g_bd (f_X11_staleOf x1 S5) fun v11 S12 =>
      f_X11_morning_77 x1 v11 v4 S12
  else none
set_option maxHeartbeats 4000000 in
set_option maxRecDepth 100000 in
theorem t_X11_morning_48 {g : z_G} {K : z_K} {v : Int32} {S' : z_Stt} (cx : z_C g M_X11_morning 2 K) (ce : z_E' g M_X11_morning (z_P g (some (.int v)) S') K) (x1 : Int32) (y0 : Int32) (S : z_Stt) (h : f_X11_morning_48 x1 y0 S = some (v, S')) : z_At g M_X11_morning K 48 [some (.ref (z_ad g 48)), some (.int x1), none, none] [.int y0, .ref (z_ad g 48)] (hp g S) := by
  unfold f_X11_morning_48 at h
  obtain ⟨c1, h⟩ := g_if h
  refine q_putZ (k := 48) (n := 4831) cx z_cl11 (j := 31) (by decide) tb_954 rfl rfl rfl c1 (by decide) rfl rfl rfl (by decide) (by decide) dX11_morning_48 ?_
  obtain ⟨S2, e3, h⟩ := g_let_ex h
  rw [← e3]
  refine z_aload_n cx rfl rfl dX11_morning_51 ?_
  refine z_bipush (v := 12) cx (by decide +kernel) dX11_morning_52 ?_
  obtain ⟨v4, S5, e6, h⟩ := g_bd_ex h
  refine q_cvi (As := [.int 12]) cx mo_X11_draws mv_X11_draws z_cl11 rfl tb_874 (by decide) rfl (by decide) rfl rfl (Nat.le_of_ble_eq_true rfl) dX11_morning_54 (c_X11_draws 12 _ e6) ?_
  refine z_aload_n cx rfl rfl dX11_morning_57 ?_
  refine q_getI (k := 48) (n := 4831) cx z_cl11 (j := 31) (by decide) tb_954 rfl (by decide) rfl rfl rfl dX11_morning_58 ?_
  refine z_if_eq (tgt := 72) cx (by decide) dX11_morning_61 (fun c7 => ?_) (fun c7 => ?_)
  · have h := g_t c7 h
    refine z_aload_n cx rfl rfl dX11_morning_72 ?_
    refine z_iload_n cx rfl rfl dX11_morning_73 ?_
    obtain ⟨v8, S9, e10, h⟩ := g_bd_ex h
    refine q_cvi (As := [.int x1]) cx mo_X11_traceOf mv_X11_traceOf z_cl11 rfl tb_504 (by decide) rfl (by decide) rfl rfl (Nat.le_of_ble_eq_true rfl) dX11_morning_74 (c_X11_traceOf x1 _ e10) ?_
    exact q_weak (z_wk_s (z_wk_s (z_wk_n (z_wk_n (z_wk_0))))) (t_X11_morning_77 cx ce x1 v8 v4 S9 h)
  · have h := g_f c7 h
    refine z_aload_n cx rfl rfl dX11_morning_64 ?_
    refine z_iload_n cx rfl rfl dX11_morning_65 ?_
    obtain ⟨v11, S12, e13, h⟩ := g_bd_ex h
    refine q_cvi (As := [.int x1]) cx mo_X11_staleOf mv_X11_staleOf z_cl11 rfl tb_500 (by decide) rfl (by decide) rfl rfl (Nat.le_of_ble_eq_true rfl) dX11_morning_66 (c_X11_staleOf x1 _ e13) ?_
    refine z_goto (tgt := 77) cx (by decide) dX11_morning_69 ?_
    exact q_weak (z_wk_s (z_wk_s (z_wk_n (z_wk_n (z_wk_0))))) (t_X11_morning_77 cx ce x1 v11 v4 S12 h)
def f_X11_morning (a0 : Int32) (a1 : Int32) (S : z_Stt) : Option (Int32 × z_Stt) :=
  g_bd (f_X11_isThing (Int32.toInt64 a0) S) fun v1 S2 =>
  if v1 = true then
    if S2.1 4830 < 0 then
      g_let (sI S2 4829 a1) fun S6 =>
      g_bd (f_X11_draws 144 S6) fun v8 S9 =>
      g_bd (f_X11_numberOf a0 0 S9) fun v11 S12 =>
      if v11 ≤ v8 then
        f_X11_morning_48 a0 0 S12
      else
        f_X11_morning_48 a0 1 S12
    else
      some ((-5), S2)
  else
    some ((-1), S2)
set_option maxHeartbeats 4000000 in
set_option maxRecDepth 100000 in
theorem t_X11_morning {g : z_G} {K : z_K} {v : Int32} {S' : z_Stt} (cx : z_C g M_X11_morning 2 K) (ce : z_E' g M_X11_morning (z_P g (some (.int v)) S') K) (a0 : Int32) (a1 : Int32) (S : z_Stt) (h : f_X11_morning a0 a1 S = some (v, S')) : z_At g M_X11_morning K 0 [some (.ref (z_ad g 48)), some (.int a0), some (.int a1), none] [] (hp g S) := by
  unfold f_X11_morning at h
  refine z_aload_n cx rfl rfl dX11_morning_0 ?_
  refine z_iload_n cx rfl rfl dX11_morning_1 ?_
  refine z_i2l cx dX11_morning_2 ?_
  obtain ⟨v1, S2, e3, h⟩ := g_bd_ex h
  refine q_cvi (As := [.long (Int32.toInt64 a0)]) cx mo_X11_isThing mv_X11_isThing z_cl11 rfl tb_274 (by decide) rfl (by decide) rfl rfl (Nat.le_of_ble_eq_true rfl) dX11_morning_3 (c_X11_isThing (Int32.toInt64 a0) _ e3) ?_
  refine q_ifb_ne (tgt := 11) cx (by decide) dX11_morning_6 (fun c4 => ?_) (fun c4 => ?_)
  · have h := g_t c4 h
    refine z_aload_n cx rfl rfl dX11_morning_11 ?_
    refine q_getI (k := 48) (n := 4830) cx z_cl11 (j := 30) (by decide) tb_164 rfl (by decide) rfl rfl rfl dX11_morning_12 ?_
    refine z_if_lt (tgt := 21) cx (by decide) dX11_morning_15 (fun c5 => ?_) (fun c5 => ?_)
    · have h := g_t c5 h
      refine z_aload_n cx rfl rfl dX11_morning_21 ?_
      refine z_iload_n cx rfl rfl dX11_morning_22 ?_
      refine q_putI (k := 48) (n := 4829) cx z_cl11 (j := 29) (by decide) tb_873 rfl rfl rfl (by decide) rfl rfl rfl (by decide) (by decide) dX11_morning_23 ?_
      obtain ⟨S6, e7, h⟩ := g_let_ex h
      rw [← e7]
      refine z_aload_n cx rfl rfl dX11_morning_26 ?_
      refine z_aload_n cx rfl rfl dX11_morning_27 ?_
      refine z_sipush (v := 144) cx (by decide +kernel) dX11_morning_28 ?_
      obtain ⟨v8, S9, e10, h⟩ := g_bd_ex h
      refine q_cvi (As := [.int 144]) cx mo_X11_draws mv_X11_draws z_cl11 rfl tb_874 (by decide) rfl (by decide) rfl rfl (Nat.le_of_ble_eq_true rfl) dX11_morning_31 (c_X11_draws 144 _ e10) ?_
      refine z_aload_n cx rfl rfl dX11_morning_34 ?_
      refine z_iload_n cx rfl rfl dX11_morning_35 ?_
      refine z_iconst (v := 0) cx (by decide +kernel) dX11_morning_36 ?_
      obtain ⟨v11, S12, e13, h⟩ := g_bd_ex h
      refine q_cvi (As := [.int a0, .int 0]) cx mo_X11_numberOf mv_X11_numberOf z_cl11 rfl tb_496 (by decide) rfl (by decide) rfl rfl (Nat.le_of_ble_eq_true rfl) dX11_morning_37 (c_X11_numberOf a0 0 _ e13) ?_
      refine z_icmp_ge (tgt := 47) cx (by decide) dX11_morning_40 (fun c14 => ?_) (fun c14 => ?_)
      · have h := g_t c14 h
        refine z_iconst (v := 0) cx (by decide +kernel) dX11_morning_47 ?_
        exact q_weak (z_wk_s (z_wk_s (z_wk_n (z_wk_n (z_wk_0))))) (t_X11_morning_48 cx ce a0 0 S12 h)
      · have h := g_f c14 h
        refine z_iconst (v := 1) cx (by decide +kernel) dX11_morning_43 ?_
        refine z_goto (tgt := 48) cx (by decide) dX11_morning_44 ?_
        exact q_weak (z_wk_s (z_wk_s (z_wk_n (z_wk_n (z_wk_0))))) (t_X11_morning_48 cx ce a0 1 S12 h)
    · have h := g_f c5 h
      refine z_bipush (v := (-5)) cx (by decide +kernel) dX11_morning_18 ?_
      obtain ⟨rfl, rfl⟩ := g_some h
      exact z_ireturn cx ce rfl ⟨rfl, rfl⟩ dX11_morning_20
  · have h := g_f (Bool.eq_false_iff.mp c4) h
    refine z_iconst (v := (-1)) cx (by decide +kernel) dX11_morning_9 ?_
    obtain ⟨rfl, rfl⟩ := g_some h
    exact z_ireturn cx ce rfl ⟨rfl, rfl⟩ dX11_morning_10
theorem c_X11_morning {g : z_G} (a0 : Int32) (a1 : Int32) (S : z_Stt) {v : Int32} {S' : z_Stt} (h : f_X11_morning a0 a1 S = some (v, S')) : z_Ct g M_X11_morning 2 [.ref (z_ad g 48), .int a0, .int a1] (hp g S) (z_P g (some (.int v)) S') :=
  z_Ct.of (by decide +kernel) rfl (Nat.le_of_ble_eq_true rfl) (fun K cx ce => q_weak (L' := [some (.ref (z_ad g 48)), some (.int a0), some (.int a1), none]) (z_wk_s (z_wk_s (z_wk_s (z_wk_e (z_wk_0))))) (t_X11_morning cx ce a0 a1 S h))
abbrev M_X11_isOver : z_M := (RX11, yX11_isOver, cX11_isOver, 2, some .int)
theorem mo_X11_isOver : z_mo M_X11_isOver 1 := ⟨tb_971, tb_5, rfl, ⟨by decide +kernel, by decide +kernel⟩, by decide +kernel, by decide⟩
theorem mv_X11_isOver : z_mv M_X11_isOver := ⟨tb_969, tb_970⟩
def f_X11_isOver_45 (x1 : Int32) (y0 : Int32) (y1 : Int32) (S : z_Stt) : Option (Int32 × z_Stt) :=
  if ¬ (y1 < 0 ∨ 5 ≤ y1.toNatClampNeg) then
    g_let (sA S 62 (upd (S.2.2.1 62) y1.toNatClampNeg y0)) fun S2 =>
    g_let (sI S2 4830 (-1)) fun S4 =>
    some (x1, S4)
  else none
set_option maxHeartbeats 4000000 in
set_option maxRecDepth 100000 in
theorem t_X11_isOver_45 {g : z_G} {K : z_K} {v : Int32} {S' : z_Stt} (cx : z_C g M_X11_isOver 0 K) (ce : z_E' g M_X11_isOver (z_P g (some (.int v)) S') K) (x1 : Int32) (y0 : Int32) (y1 : Int32) (S : z_Stt) (h : f_X11_isOver_45 x1 y0 y1 S = some (v, S')) : z_At g M_X11_isOver K 45 [some (.ref (z_ad g 48)), some (.int x1)] [.int y0, .int y1, .ref (z_ad g 62)] (hp g S) := by
  unfold f_X11_isOver_45 at h
  obtain ⟨c1, h⟩ := g_if h
  refine q_iast cx (by decide) rfl c1 dX11_isOver_45 ?_
  obtain ⟨S2, e3, h⟩ := g_let_ex h
  rw [← e3]
  refine z_aload_n cx rfl rfl dX11_isOver_46 ?_
  refine z_iconst (v := (-1)) cx (by decide +kernel) dX11_isOver_47 ?_
  refine q_putI (k := 48) (n := 4830) cx z_cl11 (j := 30) (by decide) tb_164 rfl rfl rfl (by decide) rfl rfl rfl (by decide) (by decide) dX11_isOver_48 ?_
  obtain ⟨S4, e5, h⟩ := g_let_ex h
  rw [← e5]
  refine z_iload_n cx rfl rfl dX11_isOver_51 ?_
  obtain ⟨rfl, rfl⟩ := g_some h
  exact z_ireturn cx ce rfl ⟨rfl, rfl⟩ dX11_isOver_52
def f_X11_isOver (a0 : Int32) (S : z_Stt) : Option (Int32 × z_Stt) :=
  if ¬ ((0 : Int32) < 0 ∨ 5 ≤ (0 : Int32).toNatClampNeg) then
    if ¬ ((0 : Int32) < 0 ∨ 5 ≤ (0 : Int32).toNatClampNeg) then
      g_let (sA S 62 (upd (S.2.2.1 62) (0 : Int32).toNatClampNeg ((S.2.2.1 62 (0 : Int32).toNatClampNeg) + 1))) fun S3 =>
      if ¬ ((3 : Int32) < 0 ∨ 5 ≤ (3 : Int32).toNatClampNeg) then
        if ¬ ((3 : Int32) < 0 ∨ 5 ≤ (3 : Int32).toNatClampNeg) then
          g_let (sA S3 62 (upd (S3.2.2.1 62) (3 : Int32).toNatClampNeg ((S3.2.2.1 62 (3 : Int32).toNatClampNeg) + a0))) fun S7 =>
          if ¬ ((4 : Int32) < 0 ∨ 5 ≤ (4 : Int32).toNatClampNeg) then
            if a0 ≤ S7.2.2.1 62 (4 : Int32).toNatClampNeg then
              if ¬ ((4 : Int32) < 0 ∨ 5 ≤ (4 : Int32).toNatClampNeg) then
                f_X11_isOver_45 a0 (S7.2.2.1 62 (4 : Int32).toNatClampNeg) 4 S7
              else none
            else
              f_X11_isOver_45 a0 a0 4 S7
          else none
        else none
      else none
    else none
  else none
set_option maxHeartbeats 4000000 in
set_option maxRecDepth 100000 in
theorem t_X11_isOver {g : z_G} {K : z_K} {v : Int32} {S' : z_Stt} (cx : z_C g M_X11_isOver 0 K) (ce : z_E' g M_X11_isOver (z_P g (some (.int v)) S') K) (a0 : Int32) (S : z_Stt) (h : f_X11_isOver a0 S = some (v, S')) : z_At g M_X11_isOver K 0 [some (.ref (z_ad g 48)), some (.int a0)] [] (hp g S) := by
  unfold f_X11_isOver at h
  refine z_aload_n cx rfl rfl dX11_isOver_0 ?_
  refine q_getF (k := 48) (n := 62) (r := 14) cx z_cl11 (j := 32) (by decide) tb_155 rfl (by decide) rfl rfl rfl dX11_isOver_1 ?_
  refine z_iconst (v := 0) cx (by decide +kernel) dX11_isOver_4 ?_
  refine z_dup2_11 cx rfl rfl dX11_isOver_5 ?_
  obtain ⟨c1, h⟩ := g_if h
  refine q_iald cx (by decide) rfl c1 dX11_isOver_6 ?_
  refine z_iconst (v := 1) cx (by decide +kernel) dX11_isOver_7 ?_
  refine z_iadd cx dX11_isOver_8 ?_
  obtain ⟨c2, h⟩ := g_if h
  refine q_iast cx (by decide) rfl c2 dX11_isOver_9 ?_
  obtain ⟨S3, e4, h⟩ := g_let_ex h
  rw [← e4]
  refine z_aload_n cx rfl rfl dX11_isOver_10 ?_
  refine q_getF (k := 48) (n := 62) (r := 14) cx z_cl11 (j := 32) (by decide) tb_155 rfl (by decide) rfl rfl rfl dX11_isOver_11 ?_
  refine z_iconst (v := 3) cx (by decide +kernel) dX11_isOver_14 ?_
  refine z_dup2_11 cx rfl rfl dX11_isOver_15 ?_
  obtain ⟨c5, h⟩ := g_if h
  refine q_iald cx (by decide) rfl c5 dX11_isOver_16 ?_
  refine z_iload_n cx rfl rfl dX11_isOver_17 ?_
  refine z_iadd cx dX11_isOver_18 ?_
  obtain ⟨c6, h⟩ := g_if h
  refine q_iast cx (by decide) rfl c6 dX11_isOver_19 ?_
  obtain ⟨S7, e8, h⟩ := g_let_ex h
  rw [← e8]
  refine z_aload_n cx rfl rfl dX11_isOver_20 ?_
  refine q_getF (k := 48) (n := 62) (r := 14) cx z_cl11 (j := 32) (by decide) tb_155 rfl (by decide) rfl rfl rfl dX11_isOver_21 ?_
  refine z_iconst (v := 4) cx (by decide +kernel) dX11_isOver_24 ?_
  refine z_iload_n cx rfl rfl dX11_isOver_25 ?_
  refine z_aload_n cx rfl rfl dX11_isOver_26 ?_
  refine q_getF (k := 48) (n := 62) (r := 14) cx z_cl11 (j := 32) (by decide) tb_155 rfl (by decide) rfl rfl rfl dX11_isOver_27 ?_
  refine z_iconst (v := 4) cx (by decide +kernel) dX11_isOver_30 ?_
  obtain ⟨c9, h⟩ := g_if h
  refine q_iald cx (by decide) rfl c9 dX11_isOver_31 ?_
  refine z_icmp_le (tgt := 39) cx (by decide) dX11_isOver_32 (fun c10 => ?_) (fun c10 => ?_)
  · have h := g_t c10 h
    refine z_aload_n cx rfl rfl dX11_isOver_39 ?_
    refine q_getF (k := 48) (n := 62) (r := 14) cx z_cl11 (j := 32) (by decide) tb_155 rfl (by decide) rfl rfl rfl dX11_isOver_40 ?_
    refine z_iconst (v := 4) cx (by decide +kernel) dX11_isOver_43 ?_
    obtain ⟨c11, h⟩ := g_if h
    refine q_iald cx (by decide) rfl c11 dX11_isOver_44 ?_
    exact q_weak (z_wk_s (z_wk_s (z_wk_0))) (t_X11_isOver_45 cx ce a0 (S7.2.2.1 62 (4 : Int32).toNatClampNeg) 4 S7 h)
  · have h := g_f c10 h
    refine z_iload_n cx rfl rfl dX11_isOver_35 ?_
    refine z_goto (tgt := 45) cx (by decide) dX11_isOver_36 ?_
    exact q_weak (z_wk_s (z_wk_s (z_wk_0))) (t_X11_isOver_45 cx ce a0 a0 4 S7 h)
theorem c_X11_isOver {g : z_G} (a0 : Int32) (S : z_Stt) {v : Int32} {S' : z_Stt} (h : f_X11_isOver a0 S = some (v, S')) : z_Ct g M_X11_isOver 0 [.ref (z_ad g 48), .int a0] (hp g S) (z_P g (some (.int v)) S') :=
  z_Ct.of (by decide +kernel) rfl (Nat.le_of_ble_eq_true rfl) (fun K cx ce => q_weak (L' := [some (.ref (z_ad g 48)), some (.int a0)]) (z_wk_s (z_wk_s (z_wk_0))) (t_X11_isOver cx ce a0 S h))
abbrev M_X11_goBack : z_M := (RX11, yX11_goBack, cX11_goBack, 2, some .int)
theorem mo_X11_goBack : z_mo M_X11_goBack 1 := ⟨tb_967, tb_5, rfl, ⟨by decide +kernel, by decide +kernel⟩, by decide +kernel, by decide⟩
theorem mv_X11_goBack : z_mv M_X11_goBack := ⟨tb_965, tb_966⟩
def f_X11_goBack_70 (x1 : Int32) (S : z_Stt) : Option (Int32 × z_Stt) :=
  g_bd (f_X11_backCosts x1 S) fun v1 S2 =>
  g_bd (f_X11_isOver v1 S2) fun v4 S5 =>
  some (v4, S5)
set_option maxHeartbeats 4000000 in
set_option maxRecDepth 100000 in
theorem t_X11_goBack_70 {g : z_G} {K : z_K} {v : Int32} {S' : z_Stt} (cx : z_C g M_X11_goBack 2 K) (ce : z_E' g M_X11_goBack (z_P g (some (.int v)) S') K) (x1 : Int32) (S : z_Stt) (h : f_X11_goBack_70 x1 S = some (v, S')) : z_At g M_X11_goBack K 70 [some (.ref (z_ad g 48)), some (.int x1)] [] (hp g S) := by
  unfold f_X11_goBack_70 at h
  refine z_aload_n cx rfl rfl dX11_goBack_70 ?_
  refine z_aload_n cx rfl rfl dX11_goBack_71 ?_
  refine z_iload_n cx rfl rfl dX11_goBack_72 ?_
  obtain ⟨v1, S2, e3, h⟩ := g_bd_ex h
  refine q_cvi (As := [.int x1]) cx mo_X11_backCosts mv_X11_backCosts z_cl11 rfl tb_552 (by decide) rfl (by decide) rfl rfl (Nat.le_of_ble_eq_true rfl) dX11_goBack_73 (c_X11_backCosts x1 _ e3) ?_
  obtain ⟨v4, S5, e6, h⟩ := g_bd_ex h
  refine q_cvi (As := [.int v1]) cx mo_X11_isOver mv_X11_isOver z_cl11 rfl tb_968 (by decide) rfl (by decide) rfl rfl (Nat.le_of_ble_eq_true rfl) dX11_goBack_76 (c_X11_isOver v1 _ e6) ?_
  obtain ⟨rfl, rfl⟩ := g_some h
  exact z_ireturn cx ce rfl ⟨rfl, rfl⟩ dX11_goBack_79
def f_X11_goBack_66 (x1 : Int32) (y0 : Int32) (y1 : Int32) (S : z_Stt) : Option (Int32 × z_Stt) :=
  g_let (sI S 4809 (y1 + y0)) fun S1 =>
  f_X11_goBack_70 x1 S1
set_option maxHeartbeats 4000000 in
set_option maxRecDepth 100000 in
theorem t_X11_goBack_66 {g : z_G} {K : z_K} {v : Int32} {S' : z_Stt} (cx : z_C g M_X11_goBack 2 K) (ce : z_E' g M_X11_goBack (z_P g (some (.int v)) S') K) (x1 : Int32) (y0 : Int32) (y1 : Int32) (S : z_Stt) (h : f_X11_goBack_66 x1 y0 y1 S = some (v, S')) : z_At g M_X11_goBack K 66 [some (.ref (z_ad g 48)), some (.int x1)] [.int y0, .int y1, .ref (z_ad g 48)] (hp g S) := by
  unfold f_X11_goBack_66 at h
  refine z_iadd cx dX11_goBack_66 ?_
  refine q_putI (k := 48) (n := 4809) cx z_cl11 (j := 9) (by decide) tb_311 rfl rfl rfl (by decide) rfl rfl rfl (by decide) (by decide) dX11_goBack_67 ?_
  obtain ⟨S1, e2, h⟩ := g_let_ex h
  rw [← e2]
  exact q_weak (z_wk_s (z_wk_s (z_wk_0))) (t_X11_goBack_70 cx ce x1 S1 h)
def f_X11_goBack (a0 : Int32) (S : z_Stt) : Option (Int32 × z_Stt) :=
  g_bd (f_X11_isYards (Int32.toInt64 a0) S) fun v1 S2 =>
  if v1 = true then
    if 0 ≤ S2.1 4830 then
      if ¬ ((1 : Int32) < 0 ∨ 5 ≤ (1 : Int32).toNatClampNeg) then
        if ¬ ((1 : Int32) < 0 ∨ 5 ≤ (1 : Int32).toNatClampNeg) then
          g_let (sA S2 62 (upd (S2.2.2.1 62) (1 : Int32).toNatClampNeg ((S2.2.2.1 62 (1 : Int32).toNatClampNeg) + 1))) fun S8 =>
          if S8.1 4831 = 0 then
            if ¬ ((2 : Int32) < 0 ∨ 5 ≤ (2 : Int32).toNatClampNeg) then
              if ¬ ((2 : Int32) < 0 ∨ 5 ≤ (2 : Int32).toNatClampNeg) then
                g_let (sA S8 62 (upd (S8.2.2.1 62) (2 : Int32).toNatClampNeg ((S8.2.2.1 62 (2 : Int32).toNatClampNeg) + 1))) fun S13 =>
                if 99 ≤ S13.1 4809 then
                  f_X11_goBack_66 a0 0 (S13.1 4809) S13
                else
                  f_X11_goBack_66 a0 1 (S13.1 4809) S13
              else none
            else none
          else
            f_X11_goBack_70 a0 S8
        else none
      else none
    else
      some ((-5), S2)
  else
    some ((-1), S2)
set_option maxHeartbeats 4000000 in
set_option maxRecDepth 100000 in
theorem t_X11_goBack {g : z_G} {K : z_K} {v : Int32} {S' : z_Stt} (cx : z_C g M_X11_goBack 2 K) (ce : z_E' g M_X11_goBack (z_P g (some (.int v)) S') K) (a0 : Int32) (S : z_Stt) (h : f_X11_goBack a0 S = some (v, S')) : z_At g M_X11_goBack K 0 [some (.ref (z_ad g 48)), some (.int a0)] [] (hp g S) := by
  unfold f_X11_goBack at h
  refine z_iload_n cx rfl rfl dX11_goBack_0 ?_
  refine z_i2l cx dX11_goBack_1 ?_
  obtain ⟨v1, S2, e3, h⟩ := g_bd_ex h
  refine q_csi (As := [.long (Int32.toInt64 a0)]) cx mo_X11_isYards ms_X11_isYards tb_544 (by decide) rfl rfl (Nat.le_of_ble_eq_true rfl) dX11_goBack_2 (c_X11_isYards (Int32.toInt64 a0) _ e3) ?_
  refine q_ifb_ne (tgt := 10) cx (by decide) dX11_goBack_5 (fun c4 => ?_) (fun c4 => ?_)
  · have h := g_t c4 h
    refine z_aload_n cx rfl rfl dX11_goBack_10 ?_
    refine q_getI (k := 48) (n := 4830) cx z_cl11 (j := 30) (by decide) tb_164 rfl (by decide) rfl rfl rfl dX11_goBack_11 ?_
    refine z_if_ge (tgt := 20) cx (by decide) dX11_goBack_14 (fun c5 => ?_) (fun c5 => ?_)
    · have h := g_t c5 h
      refine z_aload_n cx rfl rfl dX11_goBack_20 ?_
      refine q_getF (k := 48) (n := 62) (r := 14) cx z_cl11 (j := 32) (by decide) tb_155 rfl (by decide) rfl rfl rfl dX11_goBack_21 ?_
      refine z_iconst (v := 1) cx (by decide +kernel) dX11_goBack_24 ?_
      refine z_dup2_11 cx rfl rfl dX11_goBack_25 ?_
      obtain ⟨c6, h⟩ := g_if h
      refine q_iald cx (by decide) rfl c6 dX11_goBack_26 ?_
      refine z_iconst (v := 1) cx (by decide +kernel) dX11_goBack_27 ?_
      refine z_iadd cx dX11_goBack_28 ?_
      obtain ⟨c7, h⟩ := g_if h
      refine q_iast cx (by decide) rfl c7 dX11_goBack_29 ?_
      obtain ⟨S8, e9, h⟩ := g_let_ex h
      rw [← e9]
      refine z_aload_n cx rfl rfl dX11_goBack_30 ?_
      refine q_getI (k := 48) (n := 4831) cx z_cl11 (j := 31) (by decide) tb_954 rfl (by decide) rfl rfl rfl dX11_goBack_31 ?_
      refine z_if_ne (tgt := 70) cx (by decide) dX11_goBack_34 (fun c10 => ?_) (fun c10 => ?_)
      · have h := g_f c10 h
        exact q_weak (z_wk_s (z_wk_s (z_wk_0))) (t_X11_goBack_70 cx ce a0 S8 h)
      · have h := g_t c10 h
        refine z_aload_n cx rfl rfl dX11_goBack_37 ?_
        refine q_getF (k := 48) (n := 62) (r := 14) cx z_cl11 (j := 32) (by decide) tb_155 rfl (by decide) rfl rfl rfl dX11_goBack_38 ?_
        refine z_iconst (v := 2) cx (by decide +kernel) dX11_goBack_41 ?_
        refine z_dup2_11 cx rfl rfl dX11_goBack_42 ?_
        obtain ⟨c11, h⟩ := g_if h
        refine q_iald cx (by decide) rfl c11 dX11_goBack_43 ?_
        refine z_iconst (v := 1) cx (by decide +kernel) dX11_goBack_44 ?_
        refine z_iadd cx dX11_goBack_45 ?_
        obtain ⟨c12, h⟩ := g_if h
        refine q_iast cx (by decide) rfl c12 dX11_goBack_46 ?_
        obtain ⟨S13, e14, h⟩ := g_let_ex h
        rw [← e14]
        refine z_aload_n cx rfl rfl dX11_goBack_47 ?_
        refine z_dup cx rfl dX11_goBack_48 ?_
        refine q_getI (k := 48) (n := 4809) cx z_cl11 (j := 9) (by decide) tb_311 rfl (by decide) rfl rfl rfl dX11_goBack_49 ?_
        refine z_aload_n cx rfl rfl dX11_goBack_52 ?_
        refine q_getI (k := 48) (n := 4809) cx z_cl11 (j := 9) (by decide) tb_311 rfl (by decide) rfl rfl rfl dX11_goBack_53 ?_
        refine z_bipush (v := 99) cx (by decide +kernel) dX11_goBack_56 ?_
        refine z_icmp_ge (tgt := 65) cx (by decide) dX11_goBack_58 (fun c15 => ?_) (fun c15 => ?_)
        · have h := g_t c15 h
          refine z_iconst (v := 0) cx (by decide +kernel) dX11_goBack_65 ?_
          exact q_weak (z_wk_s (z_wk_s (z_wk_0))) (t_X11_goBack_66 cx ce a0 0 (S13.1 4809) S13 h)
        · have h := g_f c15 h
          refine z_iconst (v := 1) cx (by decide +kernel) dX11_goBack_61 ?_
          refine z_goto (tgt := 66) cx (by decide) dX11_goBack_62 ?_
          exact q_weak (z_wk_s (z_wk_s (z_wk_0))) (t_X11_goBack_66 cx ce a0 1 (S13.1 4809) S13 h)
    · have h := g_f c5 h
      refine z_bipush (v := (-5)) cx (by decide +kernel) dX11_goBack_17 ?_
      obtain ⟨rfl, rfl⟩ := g_some h
      exact z_ireturn cx ce rfl ⟨rfl, rfl⟩ dX11_goBack_19
  · have h := g_f (Bool.eq_false_iff.mp c4) h
    refine z_iconst (v := (-1)) cx (by decide +kernel) dX11_goBack_8 ?_
    obtain ⟨rfl, rfl⟩ := g_some h
    exact z_ireturn cx ce rfl ⟨rfl, rfl⟩ dX11_goBack_9
theorem c_X11_goBack {g : z_G} (a0 : Int32) (S : z_Stt) {v : Int32} {S' : z_Stt} (h : f_X11_goBack a0 S = some (v, S')) : z_Ct g M_X11_goBack 2 [.ref (z_ad g 48), .int a0] (hp g S) (z_P g (some (.int v)) S') :=
  z_Ct.of (by decide +kernel) rfl (Nat.le_of_ble_eq_true rfl) (fun K cx ce => q_weak (L' := [some (.ref (z_ad g 48)), some (.int a0)]) (z_wk_s (z_wk_s (z_wk_0))) (t_X11_goBack cx ce a0 S h))
abbrev M_X11_goOn : z_M := (RX11, yX11_goOn, cX11_goOn, 1, some .int)
theorem mo_X11_goOn : z_mo M_X11_goOn 0 := ⟨tb_979, tb_5, rfl, ⟨by decide +kernel, by decide +kernel⟩, by decide +kernel, by decide⟩
theorem mv_X11_goOn : z_mv M_X11_goOn := ⟨tb_977, tb_978⟩
def f_X11_goOn_33 (y0 : Int32) (S : z_Stt) : Option (Int32 × z_Stt) :=
  g_bd (f_X11_isOver y0 S) fun v1 S2 =>
  some (v1, S2)
set_option maxHeartbeats 4000000 in
set_option maxRecDepth 100000 in
theorem t_X11_goOn_33 {g : z_G} {K : z_K} {v : Int32} {S' : z_Stt} (cx : z_C g M_X11_goOn 1 K) (ce : z_E' g M_X11_goOn (z_P g (some (.int v)) S') K) (y0 : Int32) (S : z_Stt) (h : f_X11_goOn_33 y0 S = some (v, S')) : z_At g M_X11_goOn K 33 [none] [.int y0, .ref (z_ad g 48)] (hp g S) := by
  unfold f_X11_goOn_33 at h
  obtain ⟨v1, S2, e3, h⟩ := g_bd_ex h
  refine q_cvi (As := [.int y0]) cx mo_X11_isOver mv_X11_isOver z_cl11 rfl tb_968 (by decide) rfl (by decide) rfl rfl (Nat.le_of_ble_eq_true rfl) dX11_goOn_33 (c_X11_isOver y0 _ e3) ?_
  obtain ⟨rfl, rfl⟩ := g_some h
  exact z_ireturn cx ce rfl ⟨rfl, rfl⟩ dX11_goOn_36
def f_X11_goOn (S : z_Stt) : Option (Int32 × z_Stt) :=
  if 0 ≤ S.1 4830 then
    if S.1 4831 = 0 then
      f_X11_goOn_33 0 S
    else
      g_bd (f_X11_numberOf (S.1 4830) 3 S) fun v3 S4 =>
      f_X11_goOn_33 v3 S4
  else
    some ((-5), S)
set_option maxHeartbeats 4000000 in
set_option maxRecDepth 100000 in
theorem t_X11_goOn {g : z_G} {K : z_K} {v : Int32} {S' : z_Stt} (cx : z_C g M_X11_goOn 1 K) (ce : z_E' g M_X11_goOn (z_P g (some (.int v)) S') K) (S : z_Stt) (h : f_X11_goOn S = some (v, S')) : z_At g M_X11_goOn K 0 [some (.ref (z_ad g 48))] [] (hp g S) := by
  unfold f_X11_goOn at h
  refine z_aload_n cx rfl rfl dX11_goOn_0 ?_
  refine q_getI (k := 48) (n := 4830) cx z_cl11 (j := 30) (by decide) tb_164 rfl (by decide) rfl rfl rfl dX11_goOn_1 ?_
  refine z_if_ge (tgt := 12) cx (by decide) dX11_goOn_4 (fun c1 => ?_) (fun c1 => ?_)
  · have h := g_t c1 h
    refine z_aload_n cx rfl rfl dX11_goOn_12 ?_
    refine z_aload_n cx rfl rfl dX11_goOn_13 ?_
    refine q_getI (k := 48) (n := 4831) cx z_cl11 (j := 31) (by decide) tb_954 rfl (by decide) rfl rfl rfl dX11_goOn_14 ?_
    refine z_if_eq (tgt := 32) cx (by decide) dX11_goOn_17 (fun c2 => ?_) (fun c2 => ?_)
    · have h := g_t c2 h
      refine z_iconst (v := 0) cx (by decide +kernel) dX11_goOn_32 ?_
      exact q_weak (z_wk_n (z_wk_0)) (t_X11_goOn_33 cx ce 0 S h)
    · have h := g_f c2 h
      refine z_aload_n cx rfl rfl dX11_goOn_20 ?_
      refine z_aload_n cx rfl rfl dX11_goOn_21 ?_
      refine q_getI (k := 48) (n := 4830) cx z_cl11 (j := 30) (by decide) tb_164 rfl (by decide) rfl rfl rfl dX11_goOn_22 ?_
      refine z_iconst (v := 3) cx (by decide +kernel) dX11_goOn_25 ?_
      obtain ⟨v3, S4, e5, h⟩ := g_bd_ex h
      refine q_cvi (As := [.int (S.1 4830), .int 3]) cx mo_X11_numberOf mv_X11_numberOf z_cl11 rfl tb_496 (by decide) rfl (by decide) rfl rfl (Nat.le_of_ble_eq_true rfl) dX11_goOn_26 (c_X11_numberOf (S.1 4830) 3 _ e5) ?_
      refine z_goto (tgt := 33) cx (by decide) dX11_goOn_29 ?_
      exact q_weak (z_wk_n (z_wk_0)) (t_X11_goOn_33 cx ce v3 S4 h)
  · have h := g_f c1 h
    refine z_bipush (v := (-5)) cx (by decide +kernel) dX11_goOn_7 ?_
    refine z_goto (tgt := 36) cx (by decide) dX11_goOn_9 ?_
    obtain ⟨rfl, rfl⟩ := g_some h
    exact z_ireturn cx ce rfl ⟨rfl, rfl⟩ dX11_goOn_36
theorem c_X11_goOn {g : z_G} (S : z_Stt) {v : Int32} {S' : z_Stt} (h : f_X11_goOn S = some (v, S')) : z_Ct g M_X11_goOn 1 [.ref (z_ad g 48)] (hp g S) (z_P g (some (.int v)) S') :=
  z_Ct.of (by decide +kernel) rfl (Nat.le_of_ble_eq_true rfl) (fun K cx ce => q_weak (L' := [some (.ref (z_ad g 48))]) (z_wk_s (z_wk_0)) (t_X11_goOn cx ce S h))
abbrev M_X11_dayOff : z_M := (RX11, yX11_dayOff, cX11_dayOff, 4, some .int)
theorem mo_X11_dayOff : z_mo M_X11_dayOff 0 := ⟨tb_991, tb_5, rfl, ⟨by decide +kernel, by decide +kernel⟩, by decide +kernel, by decide⟩
theorem mv_X11_dayOff : z_mv M_X11_dayOff := ⟨tb_989, tb_990⟩
def f_X11_dayOff_64 (n : Nat) (k4 : Int32 → Int32 → z_Stt → Option (Int32 × z_Stt)) (x2 : Int32) (y0 : Int32) (y1 : Int32) (S : z_Stt) : Option (Int32 × z_Stt) :=
  if ¬ (x2 < 0 ∨ 6 ≤ x2.toNatClampNeg) then
    g_let (sA S 54 (upd (S.2.2.1 54) x2.toNatClampNeg 0)) fun S2 =>
    k4 (y1 + y0) (x2 + 1) S2
  else none
set_option maxHeartbeats 4000000 in
set_option maxRecDepth 100000 in
theorem t_X11_dayOff_64 {g : z_G} {K : z_K} (n : Nat) {v : Int32} {S' : z_Stt} (cx : z_C g M_X11_dayOff 0 K) (ce : z_E' g M_X11_dayOff (z_P g (some (.int v)) S') K) (k4 : Int32 → Int32 → z_Stt → Option (Int32 × z_Stt)) (hk4 : ∀ (x1 : Int32) (x2 : Int32) (S : z_Stt), k4 x1 x2 S = some (v, S') → z_At g M_X11_dayOff K 4 [some (.ref (z_ad g 48)), some (.int x1), some (.int x2), none] [] (hp g S)) (x2 : Int32) (y0 : Int32) (y1 : Int32) (S : z_Stt) (h : f_X11_dayOff_64 n k4 x2 y0 y1 S = some (v, S')) : z_At g M_X11_dayOff K 64 [some (.ref (z_ad g 48)), none, some (.int x2), none] [.int y0, .int y1] (hp g S) := by
  unfold f_X11_dayOff_64 at h
  refine z_iadd cx dX11_dayOff_64 ?_
  refine z_istore_n (L' := [some (.ref (z_ad g 48)), some (.int (y1 + y0)), some (.int x2), none]) cx rfl (by decide) rfl dX11_dayOff_65 ?_
  refine z_aload_n cx rfl rfl dX11_dayOff_66 ?_
  refine q_getF (k := 48) (n := 54) (r := 6) cx z_cl11 (j := 8) (by decide) tb_147 rfl (by decide) rfl rfl rfl dX11_dayOff_67 ?_
  refine z_iload_n cx rfl rfl dX11_dayOff_70 ?_
  refine z_iconst (v := 0) cx (by decide +kernel) dX11_dayOff_71 ?_
  obtain ⟨c1, h⟩ := g_if h
  refine q_zast cx (by decide) rfl c1 (by decide +kernel) dX11_dayOff_72 ?_
  obtain ⟨S2, e3, h⟩ := g_let_ex h
  rw [← e3]
  refine z_iinc (c := 1) (L' := [some (.ref (z_ad g 48)), some (.int (y1 + y0)), some (.int (x2 + 1)), none]) cx rfl (by decide +kernel) (by decide) rfl dX11_dayOff_73 ?_
  refine z_goto (tgt := 4) cx (by decide) dX11_dayOff_76 ?_
  exact q_weak (z_wk_s (z_wk_s (z_wk_s (z_wk_n (z_wk_0))))) (hk4 (y1 + y0) (x2 + 1) S2 h)
def f_X11_dayOff_52 (n : Nat) (k4 : Int32 → Int32 → z_Stt → Option (Int32 × z_Stt)) (x1 : Int32) (x2 : Int32) (x3 : Int32) (y0 : Int32) (y1 : Int32) (y2 : Int32) (S : z_Stt) : Option (Int32 × z_Stt) :=
  if ¬ (y2 < 0 ∨ 6 ≤ y2.toNatClampNeg) then
    g_let (sA S 53 (upd (S.2.2.1 53) y2.toNatClampNeg (y1 - y0))) fun S2 =>
    if x3 = 0 then
      f_X11_dayOff_64 n k4 x2 0 x1 S2
    else
      f_X11_dayOff_64 n k4 x2 1 x1 S2
  else none
set_option maxHeartbeats 4000000 in
set_option maxRecDepth 100000 in
theorem t_X11_dayOff_52 {g : z_G} {K : z_K} (n : Nat) {v : Int32} {S' : z_Stt} (cx : z_C g M_X11_dayOff 0 K) (ce : z_E' g M_X11_dayOff (z_P g (some (.int v)) S') K) (k4 : Int32 → Int32 → z_Stt → Option (Int32 × z_Stt)) (hk4 : ∀ (x1 : Int32) (x2 : Int32) (S : z_Stt), k4 x1 x2 S = some (v, S') → z_At g M_X11_dayOff K 4 [some (.ref (z_ad g 48)), some (.int x1), some (.int x2), none] [] (hp g S)) (x1 : Int32) (x2 : Int32) (x3 : Int32) (y0 : Int32) (y1 : Int32) (y2 : Int32) (S : z_Stt) (h : f_X11_dayOff_52 n k4 x1 x2 x3 y0 y1 y2 S = some (v, S')) : z_At g M_X11_dayOff K 52 [some (.ref (z_ad g 48)), some (.int x1), some (.int x2), some (.int x3)] [.int y0, .int y1, .int y2, .ref (z_ad g 53)] (hp g S) := by
  unfold f_X11_dayOff_52 at h
  refine z_isub cx dX11_dayOff_52 ?_
  obtain ⟨c1, h⟩ := g_if h
  refine q_iast cx (by decide) rfl c1 dX11_dayOff_53 ?_
  obtain ⟨S2, e3, h⟩ := g_let_ex h
  rw [← e3]
  refine z_iload_n cx rfl rfl dX11_dayOff_54 ?_
  refine z_iload_n cx rfl rfl dX11_dayOff_55 ?_
  refine z_if_eq (tgt := 63) cx (by decide) dX11_dayOff_56 (fun c4 => ?_) (fun c4 => ?_)
  · have h := g_t c4 h
    refine z_iconst (v := 0) cx (by decide +kernel) dX11_dayOff_63 ?_
    exact q_weak (z_wk_s (z_wk_n (z_wk_s (z_wk_n (z_wk_0))))) (t_X11_dayOff_64 n cx ce k4 hk4 x2 0 x1 S2 h)
  · have h := g_f c4 h
    refine z_iconst (v := 1) cx (by decide +kernel) dX11_dayOff_59 ?_
    refine z_goto (tgt := 64) cx (by decide) dX11_dayOff_60 ?_
    exact q_weak (z_wk_s (z_wk_n (z_wk_s (z_wk_n (z_wk_0))))) (t_X11_dayOff_64 n cx ce k4 hk4 x2 1 x1 S2 h)
def f_X11_dayOff_35 (n : Nat) (k4 : Int32 → Int32 → z_Stt → Option (Int32 × z_Stt)) (x1 : Int32) (x2 : Int32) (y0 : Int32) (S : z_Stt) : Option (Int32 × z_Stt) :=
  if ¬ (x2 < 0 ∨ 6 ≤ x2.toNatClampNeg) then
    if y0 = 0 then
      f_X11_dayOff_52 n k4 x1 x2 y0 0 (S.2.2.1 53 x2.toNatClampNeg) x2 S
    else
      f_X11_dayOff_52 n k4 x1 x2 y0 1 (S.2.2.1 53 x2.toNatClampNeg) x2 S
  else none
set_option maxHeartbeats 4000000 in
set_option maxRecDepth 100000 in
theorem t_X11_dayOff_35 {g : z_G} {K : z_K} (n : Nat) {v : Int32} {S' : z_Stt} (cx : z_C g M_X11_dayOff 0 K) (ce : z_E' g M_X11_dayOff (z_P g (some (.int v)) S') K) (k4 : Int32 → Int32 → z_Stt → Option (Int32 × z_Stt)) (hk4 : ∀ (x1 : Int32) (x2 : Int32) (S : z_Stt), k4 x1 x2 S = some (v, S') → z_At g M_X11_dayOff K 4 [some (.ref (z_ad g 48)), some (.int x1), some (.int x2), none] [] (hp g S)) (x1 : Int32) (x2 : Int32) (y0 : Int32) (S : z_Stt) (h : f_X11_dayOff_35 n k4 x1 x2 y0 S = some (v, S')) : z_At g M_X11_dayOff K 35 [some (.ref (z_ad g 48)), some (.int x1), some (.int x2), none] [.int y0] (hp g S) := by
  unfold f_X11_dayOff_35 at h
  refine z_istore_n (L' := [some (.ref (z_ad g 48)), some (.int x1), some (.int x2), some (.int y0)]) cx rfl (by decide) rfl dX11_dayOff_35 ?_
  refine z_aload_n cx rfl rfl dX11_dayOff_36 ?_
  refine q_getF (k := 48) (n := 53) (r := 5) cx z_cl11 (j := 7) (by decide) tb_145 rfl (by decide) rfl rfl rfl dX11_dayOff_37 ?_
  refine z_iload_n cx rfl rfl dX11_dayOff_40 ?_
  refine z_dup2_11 cx rfl rfl dX11_dayOff_41 ?_
  obtain ⟨c1, h⟩ := g_if h
  refine q_iald cx (by decide) rfl c1 dX11_dayOff_42 ?_
  refine z_iload_n cx rfl rfl dX11_dayOff_43 ?_
  refine z_if_eq (tgt := 51) cx (by decide) dX11_dayOff_44 (fun c2 => ?_) (fun c2 => ?_)
  · have h := g_t c2 h
    refine z_iconst (v := 0) cx (by decide +kernel) dX11_dayOff_51 ?_
    exact q_weak (z_wk_s (z_wk_s (z_wk_s (z_wk_s (z_wk_0))))) (t_X11_dayOff_52 n cx ce k4 hk4 x1 x2 y0 0 (S.2.2.1 53 x2.toNatClampNeg) x2 S h)
  · have h := g_f c2 h
    refine z_iconst (v := 1) cx (by decide +kernel) dX11_dayOff_47 ?_
    refine z_goto (tgt := 52) cx (by decide) dX11_dayOff_48 ?_
    exact q_weak (z_wk_s (z_wk_s (z_wk_s (z_wk_s (z_wk_0))))) (t_X11_dayOff_52 n cx ce k4 hk4 x1 x2 y0 1 (S.2.2.1 53 x2.toNatClampNeg) x2 S h)
def f_X11_dayOff_34 (n : Nat) (k4 : Int32 → Int32 → z_Stt → Option (Int32 × z_Stt)) (x1 : Int32) (x2 : Int32) (S : z_Stt) : Option (Int32 × z_Stt) :=
  f_X11_dayOff_35 n k4 x1 x2 0 S
set_option maxHeartbeats 4000000 in
set_option maxRecDepth 100000 in
theorem t_X11_dayOff_34 {g : z_G} {K : z_K} (n : Nat) {v : Int32} {S' : z_Stt} (cx : z_C g M_X11_dayOff 0 K) (ce : z_E' g M_X11_dayOff (z_P g (some (.int v)) S') K) (k4 : Int32 → Int32 → z_Stt → Option (Int32 × z_Stt)) (hk4 : ∀ (x1 : Int32) (x2 : Int32) (S : z_Stt), k4 x1 x2 S = some (v, S') → z_At g M_X11_dayOff K 4 [some (.ref (z_ad g 48)), some (.int x1), some (.int x2), none] [] (hp g S)) (x1 : Int32) (x2 : Int32) (S : z_Stt) (h : f_X11_dayOff_34 n k4 x1 x2 S = some (v, S')) : z_At g M_X11_dayOff K 34 [some (.ref (z_ad g 48)), some (.int x1), some (.int x2), none] [] (hp g S) := by
  unfold f_X11_dayOff_34 at h
  refine z_iconst (v := 0) cx (by decide +kernel) dX11_dayOff_34 ?_
  exact q_weak (z_wk_s (z_wk_s (z_wk_s (z_wk_n (z_wk_0))))) (t_X11_dayOff_35 n cx ce k4 hk4 x1 x2 0 S h)
def f_X11_dayOff_4 (n : Nat) : Nat → Int32 → Int32 → z_Stt → Option (Int32 × z_Stt)
  | 0, _, _, _ => none
  | m + 1, x1, x2, S =>
    if S.1 4806 ≤ x2 then
      some (x1, S)
    else
      if ¬ (x2 < 0 ∨ 6 ≤ x2.toNatClampNeg) then
        if S.2.2.1 54 x2.toNatClampNeg = 0 then
          if ¬ (x2 < 0 ∨ 6 ≤ x2.toNatClampNeg) then
            if S.2.2.1 53 x2.toNatClampNeg ≤ 0 then
              f_X11_dayOff_34 n (f_X11_dayOff_4 n m) x1 x2 S
            else
              f_X11_dayOff_35 n (f_X11_dayOff_4 n m) x1 x2 1 S
          else none
        else
          f_X11_dayOff_34 n (f_X11_dayOff_4 n m) x1 x2 S
      else none
set_option maxHeartbeats 4000000 in
set_option maxRecDepth 100000 in
theorem t_X11_dayOff_4 {g : z_G} {K : z_K} (n : Nat) {v : Int32} {S' : z_Stt} (cx : z_C g M_X11_dayOff 0 K) (ce : z_E' g M_X11_dayOff (z_P g (some (.int v)) S') K) : ∀ (m : Nat) (x1 : Int32) (x2 : Int32) (S : z_Stt) (h : f_X11_dayOff_4 n m x1 x2 S = some (v, S')), z_At g M_X11_dayOff K 4 [some (.ref (z_ad g 48)), some (.int x1), some (.int x2), none] [] (hp g S) := by
  intro m
  induction m with
  | zero => intro x1 x2 S h; simp [f_X11_dayOff_4] at h
  | succ m ih =>
    intro x1 x2 S h
    rw [f_X11_dayOff_4] at h
    refine z_iload_n cx rfl rfl dX11_dayOff_4 ?_
    refine z_aload_n cx rfl rfl dX11_dayOff_5 ?_
    refine q_getI (k := 48) (n := 4806) cx z_cl11 (j := 6) (by decide) tb_184 rfl (by decide) rfl rfl rfl dX11_dayOff_6 ?_
    refine z_icmp_ge (tgt := 79) cx (by decide) dX11_dayOff_9 (fun c1 => ?_) (fun c1 => ?_)
    · have h := g_t c1 h
      refine z_iload_n cx rfl rfl dX11_dayOff_79 ?_
      obtain ⟨rfl, rfl⟩ := g_some h
      exact z_ireturn cx ce rfl ⟨rfl, rfl⟩ dX11_dayOff_80
    · have h := g_f c1 h
      refine z_aload_n cx rfl rfl dX11_dayOff_12 ?_
      refine q_getF (k := 48) (n := 54) (r := 6) cx z_cl11 (j := 8) (by decide) tb_147 rfl (by decide) rfl rfl rfl dX11_dayOff_13 ?_
      refine z_iload_n cx rfl rfl dX11_dayOff_16 ?_
      obtain ⟨c2, h⟩ := g_if h
      refine q_zald cx (by decide) rfl c2 dX11_dayOff_17 ?_
      refine z_if_ne (tgt := 34) cx (by decide) dX11_dayOff_18 (fun c3 => ?_) (fun c3 => ?_)
      · have h := g_f c3 h
        exact q_weak (z_wk_s (z_wk_s (z_wk_s (z_wk_n (z_wk_0))))) (t_X11_dayOff_34 n cx ce (f_X11_dayOff_4 n m) ih x1 x2 S h)
      · have h := g_t c3 h
        refine z_aload_n cx rfl rfl dX11_dayOff_21 ?_
        refine q_getF (k := 48) (n := 53) (r := 5) cx z_cl11 (j := 7) (by decide) tb_145 rfl (by decide) rfl rfl rfl dX11_dayOff_22 ?_
        refine z_iload_n cx rfl rfl dX11_dayOff_25 ?_
        obtain ⟨c4, h⟩ := g_if h
        refine q_iald cx (by decide) rfl c4 dX11_dayOff_26 ?_
        refine z_if_le (tgt := 34) cx (by decide) dX11_dayOff_27 (fun c5 => ?_) (fun c5 => ?_)
        · have h := g_t c5 h
          exact q_weak (z_wk_s (z_wk_s (z_wk_s (z_wk_n (z_wk_0))))) (t_X11_dayOff_34 n cx ce (f_X11_dayOff_4 n m) ih x1 x2 S h)
        · have h := g_f c5 h
          refine z_iconst (v := 1) cx (by decide +kernel) dX11_dayOff_30 ?_
          refine z_goto (tgt := 35) cx (by decide) dX11_dayOff_31 ?_
          exact q_weak (z_wk_s (z_wk_s (z_wk_s (z_wk_n (z_wk_0))))) (t_X11_dayOff_35 n cx ce (f_X11_dayOff_4 n m) ih x1 x2 1 S h)
def f_X11_dayOff (n : Nat) (S : z_Stt) : Option (Int32 × z_Stt) :=
  f_X11_dayOff_4 n n 0 0 S
set_option maxHeartbeats 4000000 in
set_option maxRecDepth 100000 in
theorem t_X11_dayOff {g : z_G} {K : z_K} (n : Nat) {v : Int32} {S' : z_Stt} (cx : z_C g M_X11_dayOff 0 K) (ce : z_E' g M_X11_dayOff (z_P g (some (.int v)) S') K) (S : z_Stt) (h : f_X11_dayOff n S = some (v, S')) : z_At g M_X11_dayOff K 0 [some (.ref (z_ad g 48)), none, none, none] [] (hp g S) := by
  unfold f_X11_dayOff at h
  refine z_iconst (v := 0) cx (by decide +kernel) dX11_dayOff_0 ?_
  refine z_istore_n (L' := [some (.ref (z_ad g 48)), some (.int 0), none, none]) cx rfl (by decide) rfl dX11_dayOff_1 ?_
  refine z_iconst (v := 0) cx (by decide +kernel) dX11_dayOff_2 ?_
  refine z_istore_n (L' := [some (.ref (z_ad g 48)), some (.int 0), some (.int 0), none]) cx rfl (by decide) rfl dX11_dayOff_3 ?_
  exact q_weak (z_wk_s (z_wk_s (z_wk_s (z_wk_n (z_wk_0))))) (t_X11_dayOff_4 n cx ce n 0 0 S h)
theorem c_X11_dayOff {g : z_G} {n : Nat} (S : z_Stt) {v : Int32} {S' : z_Stt} (h : f_X11_dayOff n S = some (v, S')) : z_Ct g M_X11_dayOff 0 [.ref (z_ad g 48)] (hp g S) (z_P g (some (.int v)) S') :=
  z_Ct.of (by decide +kernel) rfl (Nat.le_of_ble_eq_true rfl) (fun K cx ce => q_weak (L' := [some (.ref (z_ad g 48)), none, none, none]) (z_wk_s (z_wk_e (z_wk_e (z_wk_e (z_wk_0))))) (t_X11_dayOff n cx ce S h))
abbrev M_X11_led : z_M := (RX11, yX11_led, cX11_led, 2, some .int)
theorem mo_X11_led : z_mo M_X11_led 1 := ⟨tb_1000, tb_5, rfl, ⟨by decide +kernel, by decide +kernel⟩, by decide +kernel, by decide⟩
theorem mv_X11_led : z_mv M_X11_led := ⟨tb_998, tb_999⟩
def f_X11_led (a0 : Int32) (S : z_Stt) : Option (Int32 × z_Stt) :=
  g_bd (f_X11_within (Int32.toInt64 a0) 0 4 S) fun v1 S2 =>
  if v1 = true then
    if ¬ (a0 < 0 ∨ 5 ≤ a0.toNatClampNeg) then
      some (S2.2.2.1 62 a0.toNatClampNeg, S2)
    else none
  else
    some ((-1), S2)
set_option maxHeartbeats 4000000 in
set_option maxRecDepth 100000 in
theorem t_X11_led {g : z_G} {K : z_K} {v : Int32} {S' : z_Stt} (cx : z_C g M_X11_led 1 K) (ce : z_E' g M_X11_led (z_P g (some (.int v)) S') K) (a0 : Int32) (S : z_Stt) (h : f_X11_led a0 S = some (v, S')) : z_At g M_X11_led K 0 [some (.ref (z_ad g 48)), some (.int a0)] [] (hp g S) := by
  unfold f_X11_led at h
  refine z_iload_n cx rfl rfl dX11_led_0 ?_
  refine z_i2l cx dX11_led_1 ?_
  refine z_lconst (v := 0) cx (by decide +kernel) dX11_led_2 ?_
  refine z_ldc2 cx tb_922 dX11_led_3 ?_
  obtain ⟨v1, S2, e3, h⟩ := g_bd_ex h
  refine q_csi (As := [.long (Int32.toInt64 a0), .long 0, .long 4]) cx mo_X11_within ms_X11_within tb_185 (by decide) rfl rfl (Nat.le_of_ble_eq_true rfl) dX11_led_6 (c_X11_within (Int32.toInt64 a0) 0 4 _ e3) ?_
  refine q_ifb_eq (tgt := 21) cx (by decide) dX11_led_9 (fun c4 => ?_) (fun c4 => ?_)
  · have h := g_f (Bool.eq_false_iff.mp c4) h
    refine z_iconst (v := (-1)) cx (by decide +kernel) dX11_led_21 ?_
    obtain ⟨rfl, rfl⟩ := g_some h
    exact z_ireturn cx ce rfl ⟨rfl, rfl⟩ dX11_led_22
  · have h := g_t c4 h
    refine z_aload_n cx rfl rfl dX11_led_12 ?_
    refine q_getF (k := 48) (n := 62) (r := 14) cx z_cl11 (j := 32) (by decide) tb_155 rfl (by decide) rfl rfl rfl dX11_led_13 ?_
    refine z_iload_n cx rfl rfl dX11_led_16 ?_
    obtain ⟨c5, h⟩ := g_if h
    refine q_iald cx (by decide) rfl c5 dX11_led_17 ?_
    refine z_goto (tgt := 22) cx (by decide) dX11_led_18 ?_
    obtain ⟨rfl, rfl⟩ := g_some h
    exact z_ireturn cx ce rfl ⟨rfl, rfl⟩ dX11_led_22
theorem c_X11_led {g : z_G} (a0 : Int32) (S : z_Stt) {v : Int32} {S' : z_Stt} (h : f_X11_led a0 S = some (v, S')) : z_Ct g M_X11_led 1 [.ref (z_ad g 48), .int a0] (hp g S) (z_P g (some (.int v)) S') :=
  z_Ct.of (by decide +kernel) rfl (Nat.le_of_ble_eq_true rfl) (fun K cx ce => q_weak (L' := [some (.ref (z_ad g 48)), some (.int a0)]) (z_wk_s (z_wk_s (z_wk_0))) (t_X11_led cx ce a0 S h))
abbrev M_X11_image : z_M := (RX11, yX11_image, cX11_image, 2, some .int)
theorem mo_X11_image : z_mo M_X11_image 0 := ⟨tb_1012, tb_5, rfl, ⟨by decide +kernel, by decide +kernel⟩, by decide +kernel, by decide⟩
theorem mv_X11_image : z_mv M_X11_image := ⟨tb_1010, tb_1011⟩
def f_X11_image_121 (n : Nat) : Nat → Int32 → z_Stt → Option (Int32 × z_Stt)
  | 0, _, _ => none
  | m + 1, x1, S =>
    if 5 ≤ x1 then
      if ¬ ((0 : Int32) < 0 ∨ 5 ≤ (0 : Int32).toNatClampNeg) then
        some (S.2.2.1 62 (0 : Int32).toNatClampNeg, S)
      else none
    else
      if ¬ (x1 < 0 ∨ 5 ≤ x1.toNatClampNeg) then
        if ¬ (16 + x1 < 0 ∨ 21 ≤ (16 + x1).toNatClampNeg) then
          g_let (sA S 63 (upd (S.2.2.1 63) (16 + x1).toNatClampNeg (S.2.2.1 62 x1.toNatClampNeg))) fun S5 =>
          f_X11_image_121 n m (x1 + 1) S5
        else none
      else none
set_option maxHeartbeats 4000000 in
set_option maxRecDepth 100000 in
theorem t_X11_image_121 {g : z_G} {K : z_K} (n : Nat) {v : Int32} {S' : z_Stt} (cx : z_C g M_X11_image 0 K) (ce : z_E' g M_X11_image (z_P g (some (.int v)) S') K) : ∀ (m : Nat) (x1 : Int32) (S : z_Stt) (h : f_X11_image_121 n m x1 S = some (v, S')), z_At g M_X11_image K 121 [some (.ref (z_ad g 48)), some (.int x1)] [] (hp g S) := by
  intro m
  induction m with
  | zero => intro x1 S h; simp [f_X11_image_121] at h
  | succ m ih =>
    intro x1 S h
    rw [f_X11_image_121] at h
    refine z_iload_n cx rfl rfl dX11_image_121 ?_
    refine z_iconst (v := 5) cx (by decide +kernel) dX11_image_122 ?_
    refine z_icmp_ge (tgt := 147) cx (by decide) dX11_image_123 (fun c1 => ?_) (fun c1 => ?_)
    · have h := g_t c1 h
      refine z_aload_n cx rfl rfl dX11_image_147 ?_
      refine q_getF (k := 48) (n := 62) (r := 14) cx z_cl11 (j := 32) (by decide) tb_155 rfl (by decide) rfl rfl rfl dX11_image_148 ?_
      refine z_iconst (v := 0) cx (by decide +kernel) dX11_image_151 ?_
      obtain ⟨c2, h⟩ := g_if h
      refine q_iald cx (by decide) rfl c2 dX11_image_152 ?_
      obtain ⟨rfl, rfl⟩ := g_some h
      exact z_ireturn cx ce rfl ⟨rfl, rfl⟩ dX11_image_153
    · have h := g_f c1 h
      refine z_aload_n cx rfl rfl dX11_image_126 ?_
      refine q_getF (k := 48) (n := 63) (r := 15) cx z_cl11 (j := 35) (by decide) tb_156 rfl (by decide) rfl rfl rfl dX11_image_127 ?_
      refine z_bipush (v := 16) cx (by decide +kernel) dX11_image_130 ?_
      refine z_iload_n cx rfl rfl dX11_image_132 ?_
      refine z_iadd cx dX11_image_133 ?_
      refine z_aload_n cx rfl rfl dX11_image_134 ?_
      refine q_getF (k := 48) (n := 62) (r := 14) cx z_cl11 (j := 32) (by decide) tb_155 rfl (by decide) rfl rfl rfl dX11_image_135 ?_
      refine z_iload_n cx rfl rfl dX11_image_138 ?_
      obtain ⟨c3, h⟩ := g_if h
      refine q_iald cx (by decide) rfl c3 dX11_image_139 ?_
      obtain ⟨c4, h⟩ := g_if h
      refine q_iast cx (by decide) rfl c4 dX11_image_140 ?_
      obtain ⟨S5, e6, h⟩ := g_let_ex h
      rw [← e6]
      refine z_iinc (c := 1) (L' := [some (.ref (z_ad g 48)), some (.int (x1 + 1))]) cx rfl (by decide +kernel) (by decide) rfl dX11_image_141 ?_
      refine z_goto (tgt := 121) cx (by decide) dX11_image_144 ?_
      exact q_weak (z_wk_s (z_wk_s (z_wk_0))) (ih (x1 + 1) S5 h)
def f_X11_image_118 (n : Nat) (y0 : Int32) (y1 : Int32) (S : z_Stt) : Option (Int32 × z_Stt) :=
  if ¬ (y1 < 0 ∨ 21 ≤ y1.toNatClampNeg) then
    g_let (sA S 63 (upd (S.2.2.1 63) y1.toNatClampNeg y0)) fun S2 =>
    f_X11_image_121 n n 0 S2
  else none
set_option maxHeartbeats 4000000 in
set_option maxRecDepth 100000 in
theorem t_X11_image_118 {g : z_G} {K : z_K} (n : Nat) {v : Int32} {S' : z_Stt} (cx : z_C g M_X11_image 0 K) (ce : z_E' g M_X11_image (z_P g (some (.int v)) S') K) (y0 : Int32) (y1 : Int32) (S : z_Stt) (h : f_X11_image_118 n y0 y1 S = some (v, S')) : z_At g M_X11_image K 118 [some (.ref (z_ad g 48)), none] [.int y0, .int y1, .ref (z_ad g 63)] (hp g S) := by
  unfold f_X11_image_118 at h
  obtain ⟨c1, h⟩ := g_if h
  refine q_iast cx (by decide) rfl c1 dX11_image_118 ?_
  obtain ⟨S2, e3, h⟩ := g_let_ex h
  rw [← e3]
  refine z_iconst (v := 0) cx (by decide +kernel) dX11_image_119 ?_
  refine z_istore_n (L' := [some (.ref (z_ad g 48)), some (.int 0)]) cx rfl (by decide) rfl dX11_image_120 ?_
  exact q_weak (z_wk_s (z_wk_s (z_wk_0))) (t_X11_image_121 n cx ce n 0 S2 h)
def f_X11_image_60 (n : Nat) (k15 : Int32 → z_Stt → Option (Int32 × z_Stt)) (x1 : Int32) (y0 : Int32) (y1 : Int32) (S : z_Stt) : Option (Int32 × z_Stt) :=
  if ¬ (y1 < 0 ∨ 21 ≤ y1.toNatClampNeg) then
    g_let (sA S 63 (upd (S.2.2.1 63) y1.toNatClampNeg y0)) fun S2 =>
    k15 (x1 + 1) S2
  else none
set_option maxHeartbeats 4000000 in
set_option maxRecDepth 100000 in
theorem t_X11_image_60 {g : z_G} {K : z_K} (n : Nat) {v : Int32} {S' : z_Stt} (cx : z_C g M_X11_image 0 K) (ce : z_E' g M_X11_image (z_P g (some (.int v)) S') K) (k15 : Int32 → z_Stt → Option (Int32 × z_Stt)) (hk15 : ∀ (x1 : Int32) (S : z_Stt), k15 x1 S = some (v, S') → z_At g M_X11_image K 15 [some (.ref (z_ad g 48)), some (.int x1)] [] (hp g S)) (x1 : Int32) (y0 : Int32) (y1 : Int32) (S : z_Stt) (h : f_X11_image_60 n k15 x1 y0 y1 S = some (v, S')) : z_At g M_X11_image K 60 [some (.ref (z_ad g 48)), some (.int x1)] [.int y0, .int y1, .ref (z_ad g 63)] (hp g S) := by
  unfold f_X11_image_60 at h
  obtain ⟨c1, h⟩ := g_if h
  refine q_iast cx (by decide) rfl c1 dX11_image_60 ?_
  obtain ⟨S2, e3, h⟩ := g_let_ex h
  rw [← e3]
  refine z_iinc (c := 1) (L' := [some (.ref (z_ad g 48)), some (.int (x1 + 1))]) cx rfl (by decide +kernel) (by decide) rfl dX11_image_61 ?_
  refine z_goto (tgt := 15) cx (by decide) dX11_image_64 ?_
  exact q_weak (z_wk_s (z_wk_s (z_wk_0))) (hk15 (x1 + 1) S2 h)
def f_X11_image_15 (n : Nat) : Nat → Int32 → z_Stt → Option (Int32 × z_Stt)
  | 0, _, _ => none
  | m + 1, x1, S =>
    if S.1 4806 ≤ x1 then
      if ¬ ((12 : Int32) < 0 ∨ 21 ≤ (12 : Int32).toNatClampNeg) then
        g_let (sA S 63 (upd (S.2.2.1 63) (12 : Int32).toNatClampNeg (S.1 4809))) fun S3 =>
        if ¬ ((13 : Int32) < 0 ∨ 21 ≤ (13 : Int32).toNatClampNeg) then
          g_let (sA S3 63 (upd (S3.2.2.1 63) (13 : Int32).toNatClampNeg (S3.1 4810))) fun S6 =>
          if ¬ ((14 : Int32) < 0 ∨ 21 ≤ (14 : Int32).toNatClampNeg) then
            g_let (sA S6 63 (upd (S6.2.2.1 63) (14 : Int32).toNatClampNeg (S6.1 4830))) fun S9 =>
            if S9.1 4831 = 0 then
              f_X11_image_118 n 0 15 S9
            else
              f_X11_image_118 n 1 15 S9
          else none
        else none
      else none
    else
      if ¬ (x1 < 0 ∨ 6 ≤ x1.toNatClampNeg) then
        if ¬ (2 * x1 < 0 ∨ 21 ≤ (2 * x1).toNatClampNeg) then
          g_let (sA S 63 (upd (S.2.2.1 63) (2 * x1).toNatClampNeg (S.2.2.1 53 x1.toNatClampNeg))) fun S14 =>
          if ¬ (x1 < 0 ∨ 6 ≤ x1.toNatClampNeg) then
            if S14.2.2.1 54 x1.toNatClampNeg = 0 then
              f_X11_image_60 n (f_X11_image_15 n m) x1 0 ((2 * x1) + 1) S14
            else
              f_X11_image_60 n (f_X11_image_15 n m) x1 1 ((2 * x1) + 1) S14
          else none
        else none
      else none
set_option maxHeartbeats 4000000 in
set_option maxRecDepth 100000 in
theorem t_X11_image_15 {g : z_G} {K : z_K} (n : Nat) {v : Int32} {S' : z_Stt} (cx : z_C g M_X11_image 0 K) (ce : z_E' g M_X11_image (z_P g (some (.int v)) S') K) : ∀ (m : Nat) (x1 : Int32) (S : z_Stt) (h : f_X11_image_15 n m x1 S = some (v, S')), z_At g M_X11_image K 15 [some (.ref (z_ad g 48)), some (.int x1)] [] (hp g S) := by
  intro m
  induction m with
  | zero => intro x1 S h; simp [f_X11_image_15] at h
  | succ m ih =>
    intro x1 S h
    rw [f_X11_image_15] at h
    refine z_iload_n cx rfl rfl dX11_image_15 ?_
    refine z_aload_n cx rfl rfl dX11_image_16 ?_
    refine q_getI (k := 48) (n := 4806) cx z_cl11 (j := 6) (by decide) tb_184 rfl (by decide) rfl rfl rfl dX11_image_17 ?_
    refine z_icmp_ge (tgt := 67) cx (by decide) dX11_image_20 (fun c1 => ?_) (fun c1 => ?_)
    · have h := g_t c1 h
      refine z_aload_n cx rfl rfl dX11_image_67 ?_
      refine q_getF (k := 48) (n := 63) (r := 15) cx z_cl11 (j := 35) (by decide) tb_156 rfl (by decide) rfl rfl rfl dX11_image_68 ?_
      refine z_bipush (v := 12) cx (by decide +kernel) dX11_image_71 ?_
      refine z_aload_n cx rfl rfl dX11_image_73 ?_
      refine q_getI (k := 48) (n := 4809) cx z_cl11 (j := 9) (by decide) tb_311 rfl (by decide) rfl rfl rfl dX11_image_74 ?_
      obtain ⟨c2, h⟩ := g_if h
      refine q_iast cx (by decide) rfl c2 dX11_image_77 ?_
      obtain ⟨S3, e4, h⟩ := g_let_ex h
      rw [← e4]
      refine z_aload_n cx rfl rfl dX11_image_78 ?_
      refine q_getF (k := 48) (n := 63) (r := 15) cx z_cl11 (j := 35) (by decide) tb_156 rfl (by decide) rfl rfl rfl dX11_image_79 ?_
      refine z_bipush (v := 13) cx (by decide +kernel) dX11_image_82 ?_
      refine z_aload_n cx rfl rfl dX11_image_84 ?_
      refine q_getI (k := 48) (n := 4810) cx z_cl11 (j := 10) (by decide) tb_312 rfl (by decide) rfl rfl rfl dX11_image_85 ?_
      obtain ⟨c5, h⟩ := g_if h
      refine q_iast cx (by decide) rfl c5 dX11_image_88 ?_
      obtain ⟨S6, e7, h⟩ := g_let_ex h
      rw [← e7]
      refine z_aload_n cx rfl rfl dX11_image_89 ?_
      refine q_getF (k := 48) (n := 63) (r := 15) cx z_cl11 (j := 35) (by decide) tb_156 rfl (by decide) rfl rfl rfl dX11_image_90 ?_
      refine z_bipush (v := 14) cx (by decide +kernel) dX11_image_93 ?_
      refine z_aload_n cx rfl rfl dX11_image_95 ?_
      refine q_getI (k := 48) (n := 4830) cx z_cl11 (j := 30) (by decide) tb_164 rfl (by decide) rfl rfl rfl dX11_image_96 ?_
      obtain ⟨c8, h⟩ := g_if h
      refine q_iast cx (by decide) rfl c8 dX11_image_99 ?_
      obtain ⟨S9, e10, h⟩ := g_let_ex h
      rw [← e10]
      refine z_aload_n cx rfl rfl dX11_image_100 ?_
      refine q_getF (k := 48) (n := 63) (r := 15) cx z_cl11 (j := 35) (by decide) tb_156 rfl (by decide) rfl rfl rfl dX11_image_101 ?_
      refine z_bipush (v := 15) cx (by decide +kernel) dX11_image_104 ?_
      refine z_aload_n cx rfl rfl dX11_image_106 ?_
      refine q_getI (k := 48) (n := 4831) cx z_cl11 (j := 31) (by decide) tb_954 rfl (by decide) rfl rfl rfl dX11_image_107 ?_
      refine z_if_eq (tgt := 117) cx (by decide) dX11_image_110 (fun c11 => ?_) (fun c11 => ?_)
      · have h := g_t c11 h
        refine z_iconst (v := 0) cx (by decide +kernel) dX11_image_117 ?_
        exact q_weak (z_wk_s (z_wk_n (z_wk_0))) (t_X11_image_118 n cx ce 0 15 S9 h)
      · have h := g_f c11 h
        refine z_iconst (v := 1) cx (by decide +kernel) dX11_image_113 ?_
        refine z_goto (tgt := 118) cx (by decide) dX11_image_114 ?_
        exact q_weak (z_wk_s (z_wk_n (z_wk_0))) (t_X11_image_118 n cx ce 1 15 S9 h)
    · have h := g_f c1 h
      refine z_aload_n cx rfl rfl dX11_image_23 ?_
      refine q_getF (k := 48) (n := 63) (r := 15) cx z_cl11 (j := 35) (by decide) tb_156 rfl (by decide) rfl rfl rfl dX11_image_24 ?_
      refine z_iconst (v := 2) cx (by decide +kernel) dX11_image_27 ?_
      refine z_iload_n cx rfl rfl dX11_image_28 ?_
      refine z_imul cx dX11_image_29 ?_
      refine z_aload_n cx rfl rfl dX11_image_30 ?_
      refine q_getF (k := 48) (n := 53) (r := 5) cx z_cl11 (j := 7) (by decide) tb_145 rfl (by decide) rfl rfl rfl dX11_image_31 ?_
      refine z_iload_n cx rfl rfl dX11_image_34 ?_
      obtain ⟨c12, h⟩ := g_if h
      refine q_iald cx (by decide) rfl c12 dX11_image_35 ?_
      obtain ⟨c13, h⟩ := g_if h
      refine q_iast cx (by decide) rfl c13 dX11_image_36 ?_
      obtain ⟨S14, e15, h⟩ := g_let_ex h
      rw [← e15]
      refine z_aload_n cx rfl rfl dX11_image_37 ?_
      refine q_getF (k := 48) (n := 63) (r := 15) cx z_cl11 (j := 35) (by decide) tb_156 rfl (by decide) rfl rfl rfl dX11_image_38 ?_
      refine z_iconst (v := 2) cx (by decide +kernel) dX11_image_41 ?_
      refine z_iload_n cx rfl rfl dX11_image_42 ?_
      refine z_imul cx dX11_image_43 ?_
      refine z_iconst (v := 1) cx (by decide +kernel) dX11_image_44 ?_
      refine z_iadd cx dX11_image_45 ?_
      refine z_aload_n cx rfl rfl dX11_image_46 ?_
      refine q_getF (k := 48) (n := 54) (r := 6) cx z_cl11 (j := 8) (by decide) tb_147 rfl (by decide) rfl rfl rfl dX11_image_47 ?_
      refine z_iload_n cx rfl rfl dX11_image_50 ?_
      obtain ⟨c16, h⟩ := g_if h
      refine q_zald cx (by decide) rfl c16 dX11_image_51 ?_
      refine z_if_eq (tgt := 59) cx (by decide) dX11_image_52 (fun c17 => ?_) (fun c17 => ?_)
      · have h := g_t c17 h
        refine z_iconst (v := 0) cx (by decide +kernel) dX11_image_59 ?_
        exact q_weak (z_wk_s (z_wk_s (z_wk_0))) (t_X11_image_60 n cx ce (f_X11_image_15 n m) ih x1 0 ((2 * x1) + 1) S14 h)
      · have h := g_f c17 h
        refine z_iconst (v := 1) cx (by decide +kernel) dX11_image_55 ?_
        refine z_goto (tgt := 60) cx (by decide) dX11_image_56 ?_
        exact q_weak (z_wk_s (z_wk_s (z_wk_0))) (t_X11_image_60 n cx ce (f_X11_image_15 n m) ih x1 1 ((2 * x1) + 1) S14 h)
def f_X11_image (n : Nat) (S : z_Stt) : Option (Int32 × z_Stt) :=
  g_let (sI S 4833 1) fun S1 =>
  g_let (sI S1 4834 (S1.1 4806)) fun S3 =>
  f_X11_image_15 n n 0 S3
set_option maxHeartbeats 4000000 in
set_option maxRecDepth 100000 in
theorem t_X11_image {g : z_G} {K : z_K} (n : Nat) {v : Int32} {S' : z_Stt} (cx : z_C g M_X11_image 0 K) (ce : z_E' g M_X11_image (z_P g (some (.int v)) S') K) (S : z_Stt) (h : f_X11_image n S = some (v, S')) : z_At g M_X11_image K 0 [some (.ref (z_ad g 48)), none] [] (hp g S) := by
  unfold f_X11_image at h
  refine z_aload_n cx rfl rfl dX11_image_0 ?_
  refine z_iconst (v := 1) cx (by decide +kernel) dX11_image_1 ?_
  refine q_putZ (k := 48) (n := 4833) cx z_cl11 (j := 33) (by decide) tb_1013 rfl rfl rfl (by decide +kernel) (by decide) rfl rfl rfl (by decide) (by decide) dX11_image_2 ?_
  obtain ⟨S1, e2, h⟩ := g_let_ex h
  rw [← e2]
  refine z_aload_n cx rfl rfl dX11_image_5 ?_
  refine z_aload_n cx rfl rfl dX11_image_6 ?_
  refine q_getI (k := 48) (n := 4806) cx z_cl11 (j := 6) (by decide) tb_184 rfl (by decide) rfl rfl rfl dX11_image_7 ?_
  refine q_putI (k := 48) (n := 4834) cx z_cl11 (j := 34) (by decide) tb_1014 rfl rfl rfl (by decide) rfl rfl rfl (by decide) (by decide) dX11_image_10 ?_
  obtain ⟨S3, e4, h⟩ := g_let_ex h
  rw [← e4]
  refine z_iconst (v := 0) cx (by decide +kernel) dX11_image_13 ?_
  refine z_istore_n (L' := [some (.ref (z_ad g 48)), some (.int 0)]) cx rfl (by decide) rfl dX11_image_14 ?_
  exact q_weak (z_wk_s (z_wk_s (z_wk_0))) (t_X11_image_15 n cx ce n 0 S3 h)
theorem c_X11_image {g : z_G} {n : Nat} (S : z_Stt) {v : Int32} {S' : z_Stt} (h : f_X11_image n S = some (v, S')) : z_Ct g M_X11_image 0 [.ref (z_ad g 48)] (hp g S) (z_P g (some (.int v)) S') :=
  z_Ct.of (by decide +kernel) rfl (Nat.le_of_ble_eq_true rfl) (fun K cx ce => q_weak (L' := [some (.ref (z_ad g 48)), none]) (z_wk_s (z_wk_e (z_wk_0))) (t_X11_image n cx ce S h))
abbrev M_X11_back : z_M := (RX11, yX11_back, cX11_back, 2, some .int)
theorem mo_X11_back : z_mo M_X11_back 0 := ⟨tb_1022, tb_5, rfl, ⟨by decide +kernel, by decide +kernel⟩, by decide +kernel, by decide⟩
theorem mv_X11_back : z_mv M_X11_back := ⟨tb_1020, tb_1021⟩
def f_X11_back_140 (n : Nat) : Nat → Int32 → z_Stt → Option (Int32 × z_Stt)
  | 0, _, _ => none
  | m + 1, x1, S =>
    if 5 ≤ x1 then
      if ¬ ((0 : Int32) < 0 ∨ 5 ≤ (0 : Int32).toNatClampNeg) then
        some (S.2.2.1 62 (0 : Int32).toNatClampNeg, S)
      else none
    else
      if ¬ (16 + x1 < 0 ∨ 21 ≤ (16 + x1).toNatClampNeg) then
        if ¬ (x1 < 0 ∨ 5 ≤ x1.toNatClampNeg) then
          g_let (sA S 62 (upd (S.2.2.1 62) x1.toNatClampNeg (S.2.2.1 63 (16 + x1).toNatClampNeg))) fun S5 =>
          f_X11_back_140 n m (x1 + 1) S5
        else none
      else none
set_option maxHeartbeats 4000000 in
set_option maxRecDepth 100000 in
theorem t_X11_back_140 {g : z_G} {K : z_K} (n : Nat) {v : Int32} {S' : z_Stt} (cx : z_C g M_X11_back 0 K) (ce : z_E' g M_X11_back (z_P g (some (.int v)) S') K) : ∀ (m : Nat) (x1 : Int32) (S : z_Stt) (h : f_X11_back_140 n m x1 S = some (v, S')), z_At g M_X11_back K 140 [some (.ref (z_ad g 48)), some (.int x1)] [] (hp g S) := by
  intro m
  induction m with
  | zero => intro x1 S h; simp [f_X11_back_140] at h
  | succ m ih =>
    intro x1 S h
    rw [f_X11_back_140] at h
    refine z_iload_n cx rfl rfl dX11_back_140 ?_
    refine z_iconst (v := 5) cx (by decide +kernel) dX11_back_141 ?_
    refine z_icmp_ge (tgt := 166) cx (by decide) dX11_back_142 (fun c1 => ?_) (fun c1 => ?_)
    · have h := g_t c1 h
      refine z_aload_n cx rfl rfl dX11_back_166 ?_
      refine q_getF (k := 48) (n := 62) (r := 14) cx z_cl11 (j := 32) (by decide) tb_155 rfl (by decide) rfl rfl rfl dX11_back_167 ?_
      refine z_iconst (v := 0) cx (by decide +kernel) dX11_back_170 ?_
      obtain ⟨c2, h⟩ := g_if h
      refine q_iald cx (by decide) rfl c2 dX11_back_171 ?_
      obtain ⟨rfl, rfl⟩ := g_some h
      exact z_ireturn cx ce rfl ⟨rfl, rfl⟩ dX11_back_172
    · have h := g_f c1 h
      refine z_aload_n cx rfl rfl dX11_back_145 ?_
      refine q_getF (k := 48) (n := 62) (r := 14) cx z_cl11 (j := 32) (by decide) tb_155 rfl (by decide) rfl rfl rfl dX11_back_146 ?_
      refine z_iload_n cx rfl rfl dX11_back_149 ?_
      refine z_aload_n cx rfl rfl dX11_back_150 ?_
      refine q_getF (k := 48) (n := 63) (r := 15) cx z_cl11 (j := 35) (by decide) tb_156 rfl (by decide) rfl rfl rfl dX11_back_151 ?_
      refine z_bipush (v := 16) cx (by decide +kernel) dX11_back_154 ?_
      refine z_iload_n cx rfl rfl dX11_back_156 ?_
      refine z_iadd cx dX11_back_157 ?_
      obtain ⟨c3, h⟩ := g_if h
      refine q_iald cx (by decide) rfl c3 dX11_back_158 ?_
      obtain ⟨c4, h⟩ := g_if h
      refine q_iast cx (by decide) rfl c4 dX11_back_159 ?_
      obtain ⟨S5, e6, h⟩ := g_let_ex h
      rw [← e6]
      refine z_iinc (c := 1) (L' := [some (.ref (z_ad g 48)), some (.int (x1 + 1))]) cx rfl (by decide +kernel) (by decide) rfl dX11_back_160 ?_
      refine z_goto (tgt := 140) cx (by decide) dX11_back_163 ?_
      exact q_weak (z_wk_s (z_wk_s (z_wk_0))) (ih (x1 + 1) S5 h)
def f_X11_back_135 (n : Nat) (y0 : Int32) (S : z_Stt) : Option (Int32 × z_Stt) :=
  if y0 = 0 ∨ y0 = 1 then
    g_let (sI S 4831 y0) fun S2 =>
    f_X11_back_140 n n 0 S2
  else none
set_option maxHeartbeats 4000000 in
set_option maxRecDepth 100000 in
theorem t_X11_back_135 {g : z_G} {K : z_K} (n : Nat) {v : Int32} {S' : z_Stt} (cx : z_C g M_X11_back 0 K) (ce : z_E' g M_X11_back (z_P g (some (.int v)) S') K) (y0 : Int32) (S : z_Stt) (h : f_X11_back_135 n y0 S = some (v, S')) : z_At g M_X11_back K 135 [some (.ref (z_ad g 48)), none] [.int y0, .ref (z_ad g 48)] (hp g S) := by
  unfold f_X11_back_135 at h
  obtain ⟨c1, h⟩ := g_if h
  refine q_putZ (k := 48) (n := 4831) cx z_cl11 (j := 31) (by decide) tb_954 rfl rfl rfl c1 (by decide) rfl rfl rfl (by decide) (by decide) dX11_back_135 ?_
  obtain ⟨S2, e3, h⟩ := g_let_ex h
  rw [← e3]
  refine z_iconst (v := 0) cx (by decide +kernel) dX11_back_138 ?_
  refine z_istore_n (L' := [some (.ref (z_ad g 48)), some (.int 0)]) cx rfl (by decide) rfl dX11_back_139 ?_
  exact q_weak (z_wk_s (z_wk_s (z_wk_0))) (t_X11_back_140 n cx ce n 0 S2 h)
def f_X11_back_78 (n : Nat) (k12 : Int32 → z_Stt → Option (Int32 × z_Stt)) (x1 : Int32) (y0 : Int32) (y1 : Int32) (S : z_Stt) : Option (Int32 × z_Stt) :=
  if ¬ (y1 < 0 ∨ 6 ≤ y1.toNatClampNeg) then
    if y0 = 0 ∨ y0 = 1 then
      g_let (sA S 54 (upd (S.2.2.1 54) y1.toNatClampNeg y0)) fun S3 =>
      k12 (x1 + 1) S3
    else none
  else none
set_option maxHeartbeats 4000000 in
set_option maxRecDepth 100000 in
theorem t_X11_back_78 {g : z_G} {K : z_K} (n : Nat) {v : Int32} {S' : z_Stt} (cx : z_C g M_X11_back 0 K) (ce : z_E' g M_X11_back (z_P g (some (.int v)) S') K) (k12 : Int32 → z_Stt → Option (Int32 × z_Stt)) (hk12 : ∀ (x1 : Int32) (S : z_Stt), k12 x1 S = some (v, S') → z_At g M_X11_back K 12 [some (.ref (z_ad g 48)), some (.int x1)] [] (hp g S)) (x1 : Int32) (y0 : Int32) (y1 : Int32) (S : z_Stt) (h : f_X11_back_78 n k12 x1 y0 y1 S = some (v, S')) : z_At g M_X11_back K 78 [some (.ref (z_ad g 48)), some (.int x1)] [.int y0, .int y1, .ref (z_ad g 54)] (hp g S) := by
  unfold f_X11_back_78 at h
  obtain ⟨c1, h⟩ := g_if h
  obtain ⟨c2, h⟩ := g_if h
  refine q_zast cx (by decide) rfl c1 c2 dX11_back_78 ?_
  obtain ⟨S3, e4, h⟩ := g_let_ex h
  rw [← e4]
  refine z_iinc (c := 1) (L' := [some (.ref (z_ad g 48)), some (.int (x1 + 1))]) cx rfl (by decide +kernel) (by decide) rfl dX11_back_79 ?_
  refine z_goto (tgt := 12) cx (by decide) dX11_back_82 ?_
  exact q_weak (z_wk_s (z_wk_s (z_wk_0))) (hk12 (x1 + 1) S3 h)
def f_X11_back_77 (n : Nat) (k12 : Int32 → z_Stt → Option (Int32 × z_Stt)) (x1 : Int32) (y0 : Int32) (S : z_Stt) : Option (Int32 × z_Stt) :=
  f_X11_back_78 n k12 x1 0 y0 S
set_option maxHeartbeats 4000000 in
set_option maxRecDepth 100000 in
theorem t_X11_back_77 {g : z_G} {K : z_K} (n : Nat) {v : Int32} {S' : z_Stt} (cx : z_C g M_X11_back 0 K) (ce : z_E' g M_X11_back (z_P g (some (.int v)) S') K) (k12 : Int32 → z_Stt → Option (Int32 × z_Stt)) (hk12 : ∀ (x1 : Int32) (S : z_Stt), k12 x1 S = some (v, S') → z_At g M_X11_back K 12 [some (.ref (z_ad g 48)), some (.int x1)] [] (hp g S)) (x1 : Int32) (y0 : Int32) (S : z_Stt) (h : f_X11_back_77 n k12 x1 y0 S = some (v, S')) : z_At g M_X11_back K 77 [some (.ref (z_ad g 48)), some (.int x1)] [.int y0, .ref (z_ad g 54)] (hp g S) := by
  unfold f_X11_back_77 at h
  refine z_iconst (v := 0) cx (by decide +kernel) dX11_back_77 ?_
  exact q_weak (z_wk_s (z_wk_s (z_wk_0))) (t_X11_back_78 n cx ce k12 hk12 x1 0 y0 S h)
def f_X11_back_45 (n : Nat) (k12 : Int32 → z_Stt → Option (Int32 × z_Stt)) (x1 : Int32) (y0 : Int32) (y1 : Int32) (S : z_Stt) : Option (Int32 × z_Stt) :=
  if ¬ (y1 < 0 ∨ 6 ≤ y1.toNatClampNeg) then
    g_let (sA S 53 (upd (S.2.2.1 53) y1.toNatClampNeg y0)) fun S2 =>
    if S2.1 4834 ≤ x1 then
      f_X11_back_77 n k12 x1 x1 S2
    else
      if ¬ ((2 * x1) + 1 < 0 ∨ 21 ≤ ((2 * x1) + 1).toNatClampNeg) then
        if S2.2.2.1 63 ((2 * x1) + 1).toNatClampNeg = 1 then
          f_X11_back_78 n k12 x1 1 x1 S2
        else
          f_X11_back_77 n k12 x1 x1 S2
      else none
  else none
set_option maxHeartbeats 4000000 in
set_option maxRecDepth 100000 in
theorem t_X11_back_45 {g : z_G} {K : z_K} (n : Nat) {v : Int32} {S' : z_Stt} (cx : z_C g M_X11_back 0 K) (ce : z_E' g M_X11_back (z_P g (some (.int v)) S') K) (k12 : Int32 → z_Stt → Option (Int32 × z_Stt)) (hk12 : ∀ (x1 : Int32) (S : z_Stt), k12 x1 S = some (v, S') → z_At g M_X11_back K 12 [some (.ref (z_ad g 48)), some (.int x1)] [] (hp g S)) (x1 : Int32) (y0 : Int32) (y1 : Int32) (S : z_Stt) (h : f_X11_back_45 n k12 x1 y0 y1 S = some (v, S')) : z_At g M_X11_back K 45 [some (.ref (z_ad g 48)), some (.int x1)] [.int y0, .int y1, .ref (z_ad g 53)] (hp g S) := by
  unfold f_X11_back_45 at h
  obtain ⟨c1, h⟩ := g_if h
  refine q_iast cx (by decide) rfl c1 dX11_back_45 ?_
  obtain ⟨S2, e3, h⟩ := g_let_ex h
  rw [← e3]
  refine z_aload_n cx rfl rfl dX11_back_46 ?_
  refine q_getF (k := 48) (n := 54) (r := 6) cx z_cl11 (j := 8) (by decide) tb_147 rfl (by decide) rfl rfl rfl dX11_back_47 ?_
  refine z_iload_n cx rfl rfl dX11_back_50 ?_
  refine z_iload_n cx rfl rfl dX11_back_51 ?_
  refine z_aload_n cx rfl rfl dX11_back_52 ?_
  refine q_getI (k := 48) (n := 4834) cx z_cl11 (j := 34) (by decide) tb_1014 rfl (by decide) rfl rfl rfl dX11_back_53 ?_
  refine z_icmp_ge (tgt := 77) cx (by decide) dX11_back_56 (fun c4 => ?_) (fun c4 => ?_)
  · have h := g_t c4 h
    exact q_weak (z_wk_s (z_wk_s (z_wk_0))) (t_X11_back_77 n cx ce k12 hk12 x1 x1 S2 h)
  · have h := g_f c4 h
    refine z_aload_n cx rfl rfl dX11_back_59 ?_
    refine q_getF (k := 48) (n := 63) (r := 15) cx z_cl11 (j := 35) (by decide) tb_156 rfl (by decide) rfl rfl rfl dX11_back_60 ?_
    refine z_iconst (v := 2) cx (by decide +kernel) dX11_back_63 ?_
    refine z_iload_n cx rfl rfl dX11_back_64 ?_
    refine z_imul cx dX11_back_65 ?_
    refine z_iconst (v := 1) cx (by decide +kernel) dX11_back_66 ?_
    refine z_iadd cx dX11_back_67 ?_
    obtain ⟨c5, h⟩ := g_if h
    refine q_iald cx (by decide) rfl c5 dX11_back_68 ?_
    refine z_iconst (v := 1) cx (by decide +kernel) dX11_back_69 ?_
    refine z_icmp_ne (tgt := 77) cx (by decide) dX11_back_70 (fun c6 => ?_) (fun c6 => ?_)
    · have h := g_f c6 h
      exact q_weak (z_wk_s (z_wk_s (z_wk_0))) (t_X11_back_77 n cx ce k12 hk12 x1 x1 S2 h)
    · have h := g_t c6 h
      refine z_iconst (v := 1) cx (by decide +kernel) dX11_back_73 ?_
      refine z_goto (tgt := 78) cx (by decide) dX11_back_74 ?_
      exact q_weak (z_wk_s (z_wk_s (z_wk_0))) (t_X11_back_78 n cx ce k12 hk12 x1 1 x1 S2 h)
def f_X11_back_12 (n : Nat) : Nat → Int32 → z_Stt → Option (Int32 × z_Stt)
  | 0, _, _ => none
  | m + 1, x1, S =>
    if S.1 4806 ≤ x1 then
      if ¬ ((12 : Int32) < 0 ∨ 21 ≤ (12 : Int32).toNatClampNeg) then
        g_let (sI S 4809 (S.2.2.1 63 (12 : Int32).toNatClampNeg)) fun S3 =>
        if ¬ ((13 : Int32) < 0 ∨ 21 ≤ (13 : Int32).toNatClampNeg) then
          g_let (sI S3 4810 (S3.2.2.1 63 (13 : Int32).toNatClampNeg)) fun S6 =>
          if ¬ ((14 : Int32) < 0 ∨ 21 ≤ (14 : Int32).toNatClampNeg) then
            g_let (sI S6 4830 (S6.2.2.1 63 (14 : Int32).toNatClampNeg)) fun S9 =>
            if ¬ ((15 : Int32) < 0 ∨ 21 ≤ (15 : Int32).toNatClampNeg) then
              if S9.2.2.1 63 (15 : Int32).toNatClampNeg = 1 then
                f_X11_back_135 n 1 S9
              else
                f_X11_back_135 n 0 S9
            else none
          else none
        else none
      else none
    else
      if S.1 4834 ≤ x1 then
        f_X11_back_45 n (f_X11_back_12 n m) x1 0 x1 S
      else
        if ¬ (2 * x1 < 0 ∨ 21 ≤ (2 * x1).toNatClampNeg) then
          f_X11_back_45 n (f_X11_back_12 n m) x1 (S.2.2.1 63 (2 * x1).toNatClampNeg) x1 S
        else none
set_option maxHeartbeats 4000000 in
set_option maxRecDepth 100000 in
theorem t_X11_back_12 {g : z_G} {K : z_K} (n : Nat) {v : Int32} {S' : z_Stt} (cx : z_C g M_X11_back 0 K) (ce : z_E' g M_X11_back (z_P g (some (.int v)) S') K) : ∀ (m : Nat) (x1 : Int32) (S : z_Stt) (h : f_X11_back_12 n m x1 S = some (v, S')), z_At g M_X11_back K 12 [some (.ref (z_ad g 48)), some (.int x1)] [] (hp g S) := by
  intro m
  induction m with
  | zero => intro x1 S h; simp [f_X11_back_12] at h
  | succ m ih =>
    intro x1 S h
    rw [f_X11_back_12] at h
    refine z_iload_n cx rfl rfl dX11_back_12 ?_
    refine z_aload_n cx rfl rfl dX11_back_13 ?_
    refine q_getI (k := 48) (n := 4806) cx z_cl11 (j := 6) (by decide) tb_184 rfl (by decide) rfl rfl rfl dX11_back_14 ?_
    refine z_icmp_ge (tgt := 85) cx (by decide) dX11_back_17 (fun c1 => ?_) (fun c1 => ?_)
    · have h := g_t c1 h
      refine z_aload_n cx rfl rfl dX11_back_85 ?_
      refine z_aload_n cx rfl rfl dX11_back_86 ?_
      refine q_getF (k := 48) (n := 63) (r := 15) cx z_cl11 (j := 35) (by decide) tb_156 rfl (by decide) rfl rfl rfl dX11_back_87 ?_
      refine z_bipush (v := 12) cx (by decide +kernel) dX11_back_90 ?_
      obtain ⟨c2, h⟩ := g_if h
      refine q_iald cx (by decide) rfl c2 dX11_back_92 ?_
      refine q_putI (k := 48) (n := 4809) cx z_cl11 (j := 9) (by decide) tb_311 rfl rfl rfl (by decide) rfl rfl rfl (by decide) (by decide) dX11_back_93 ?_
      obtain ⟨S3, e4, h⟩ := g_let_ex h
      rw [← e4]
      refine z_aload_n cx rfl rfl dX11_back_96 ?_
      refine z_aload_n cx rfl rfl dX11_back_97 ?_
      refine q_getF (k := 48) (n := 63) (r := 15) cx z_cl11 (j := 35) (by decide) tb_156 rfl (by decide) rfl rfl rfl dX11_back_98 ?_
      refine z_bipush (v := 13) cx (by decide +kernel) dX11_back_101 ?_
      obtain ⟨c5, h⟩ := g_if h
      refine q_iald cx (by decide) rfl c5 dX11_back_103 ?_
      refine q_putI (k := 48) (n := 4810) cx z_cl11 (j := 10) (by decide) tb_312 rfl rfl rfl (by decide) rfl rfl rfl (by decide) (by decide) dX11_back_104 ?_
      obtain ⟨S6, e7, h⟩ := g_let_ex h
      rw [← e7]
      refine z_aload_n cx rfl rfl dX11_back_107 ?_
      refine z_aload_n cx rfl rfl dX11_back_108 ?_
      refine q_getF (k := 48) (n := 63) (r := 15) cx z_cl11 (j := 35) (by decide) tb_156 rfl (by decide) rfl rfl rfl dX11_back_109 ?_
      refine z_bipush (v := 14) cx (by decide +kernel) dX11_back_112 ?_
      obtain ⟨c8, h⟩ := g_if h
      refine q_iald cx (by decide) rfl c8 dX11_back_114 ?_
      refine q_putI (k := 48) (n := 4830) cx z_cl11 (j := 30) (by decide) tb_164 rfl rfl rfl (by decide) rfl rfl rfl (by decide) (by decide) dX11_back_115 ?_
      obtain ⟨S9, e10, h⟩ := g_let_ex h
      rw [← e10]
      refine z_aload_n cx rfl rfl dX11_back_118 ?_
      refine z_aload_n cx rfl rfl dX11_back_119 ?_
      refine q_getF (k := 48) (n := 63) (r := 15) cx z_cl11 (j := 35) (by decide) tb_156 rfl (by decide) rfl rfl rfl dX11_back_120 ?_
      refine z_bipush (v := 15) cx (by decide +kernel) dX11_back_123 ?_
      obtain ⟨c11, h⟩ := g_if h
      refine q_iald cx (by decide) rfl c11 dX11_back_125 ?_
      refine z_iconst (v := 1) cx (by decide +kernel) dX11_back_126 ?_
      refine z_icmp_ne (tgt := 134) cx (by decide) dX11_back_127 (fun c12 => ?_) (fun c12 => ?_)
      · have h := g_f c12 h
        refine z_iconst (v := 0) cx (by decide +kernel) dX11_back_134 ?_
        exact q_weak (z_wk_s (z_wk_n (z_wk_0))) (t_X11_back_135 n cx ce 0 S9 h)
      · have h := g_t c12 h
        refine z_iconst (v := 1) cx (by decide +kernel) dX11_back_130 ?_
        refine z_goto (tgt := 135) cx (by decide) dX11_back_131 ?_
        exact q_weak (z_wk_s (z_wk_n (z_wk_0))) (t_X11_back_135 n cx ce 1 S9 h)
    · have h := g_f c1 h
      refine z_aload_n cx rfl rfl dX11_back_20 ?_
      refine q_getF (k := 48) (n := 53) (r := 5) cx z_cl11 (j := 7) (by decide) tb_145 rfl (by decide) rfl rfl rfl dX11_back_21 ?_
      refine z_iload_n cx rfl rfl dX11_back_24 ?_
      refine z_iload_n cx rfl rfl dX11_back_25 ?_
      refine z_aload_n cx rfl rfl dX11_back_26 ?_
      refine q_getI (k := 48) (n := 4834) cx z_cl11 (j := 34) (by decide) tb_1014 rfl (by decide) rfl rfl rfl dX11_back_27 ?_
      refine z_icmp_ge (tgt := 44) cx (by decide) dX11_back_30 (fun c13 => ?_) (fun c13 => ?_)
      · have h := g_t c13 h
        refine z_iconst (v := 0) cx (by decide +kernel) dX11_back_44 ?_
        exact q_weak (z_wk_s (z_wk_s (z_wk_0))) (t_X11_back_45 n cx ce (f_X11_back_12 n m) ih x1 0 x1 S h)
      · have h := g_f c13 h
        refine z_aload_n cx rfl rfl dX11_back_33 ?_
        refine q_getF (k := 48) (n := 63) (r := 15) cx z_cl11 (j := 35) (by decide) tb_156 rfl (by decide) rfl rfl rfl dX11_back_34 ?_
        refine z_iconst (v := 2) cx (by decide +kernel) dX11_back_37 ?_
        refine z_iload_n cx rfl rfl dX11_back_38 ?_
        refine z_imul cx dX11_back_39 ?_
        obtain ⟨c14, h⟩ := g_if h
        refine q_iald cx (by decide) rfl c14 dX11_back_40 ?_
        refine z_goto (tgt := 45) cx (by decide) dX11_back_41 ?_
        exact q_weak (z_wk_s (z_wk_s (z_wk_0))) (t_X11_back_45 n cx ce (f_X11_back_12 n m) ih x1 (S.2.2.1 63 (2 * x1).toNatClampNeg) x1 S h)
def f_X11_back (n : Nat) (S : z_Stt) : Option (Int32 × z_Stt) :=
  if S.1 4833 = 0 then
    some ((-5), S)
  else
    f_X11_back_12 n n 0 S
set_option maxHeartbeats 4000000 in
set_option maxRecDepth 100000 in
theorem t_X11_back {g : z_G} {K : z_K} (n : Nat) {v : Int32} {S' : z_Stt} (cx : z_C g M_X11_back 0 K) (ce : z_E' g M_X11_back (z_P g (some (.int v)) S') K) (S : z_Stt) (h : f_X11_back n S = some (v, S')) : z_At g M_X11_back K 0 [some (.ref (z_ad g 48)), none] [] (hp g S) := by
  unfold f_X11_back at h
  refine z_aload_n cx rfl rfl dX11_back_0 ?_
  refine q_getI (k := 48) (n := 4833) cx z_cl11 (j := 33) (by decide) tb_1013 rfl (by decide) rfl rfl rfl dX11_back_1 ?_
  refine z_if_ne (tgt := 10) cx (by decide) dX11_back_4 (fun c1 => ?_) (fun c1 => ?_)
  · have h := g_f c1 h
    refine z_iconst (v := 0) cx (by decide +kernel) dX11_back_10 ?_
    refine z_istore_n (L' := [some (.ref (z_ad g 48)), some (.int 0)]) cx rfl (by decide) rfl dX11_back_11 ?_
    exact q_weak (z_wk_s (z_wk_s (z_wk_0))) (t_X11_back_12 n cx ce n 0 S h)
  · have h := g_t c1 h
    refine z_bipush (v := (-5)) cx (by decide +kernel) dX11_back_7 ?_
    obtain ⟨rfl, rfl⟩ := g_some h
    exact z_ireturn cx ce rfl ⟨rfl, rfl⟩ dX11_back_9
theorem c_X11_back {g : z_G} {n : Nat} (S : z_Stt) {v : Int32} {S' : z_Stt} (h : f_X11_back n S = some (v, S')) : z_Ct g M_X11_back 0 [.ref (z_ad g 48)] (hp g S) (z_P g (some (.int v)) S') :=
  z_Ct.of (by decide +kernel) rfl (Nat.le_of_ble_eq_true rfl) (fun K cx ce => q_weak (L' := [some (.ref (z_ad g 48)), none]) (z_wk_s (z_wk_e (z_wk_0))) (t_X11_back n cx ce S h))
abbrev M_X11_markedMany : z_M := (RX11, yX11_markedMany, cX11_markedMany, 3, some .int)
theorem mo_X11_markedMany : z_mo M_X11_markedMany 0 := ⟨tb_1247, tb_5, rfl, ⟨by decide +kernel, by decide +kernel⟩, by decide +kernel, by decide⟩
theorem mv_X11_markedMany : z_mv M_X11_markedMany := ⟨tb_1245, tb_1246⟩
def f_X11_markedMany_4 (n : Nat) : Nat → Int32 → Int32 → z_Stt → Option (Int32 × z_Stt)
  | 0, _, _, _ => none
  | m + 1, x1, x2, S =>
    if S.1 4806 ≤ x2 then
      some (x1, S)
    else
      g_bd (f_X11_numberOf x2 4 S) fun v2 S3 =>
      f_X11_markedMany_4 n m (x1 + v2) (x2 + 1) S3
set_option maxHeartbeats 4000000 in
set_option maxRecDepth 100000 in
theorem t_X11_markedMany_4 {g : z_G} {K : z_K} (n : Nat) {v : Int32} {S' : z_Stt} (cx : z_C g M_X11_markedMany 1 K) (ce : z_E' g M_X11_markedMany (z_P g (some (.int v)) S') K) : ∀ (m : Nat) (x1 : Int32) (x2 : Int32) (S : z_Stt) (h : f_X11_markedMany_4 n m x1 x2 S = some (v, S')), z_At g M_X11_markedMany K 4 [some (.ref (z_ad g 48)), some (.int x1), some (.int x2)] [] (hp g S) := by
  intro m
  induction m with
  | zero => intro x1 x2 S h; simp [f_X11_markedMany_4] at h
  | succ m ih =>
    intro x1 x2 S h
    rw [f_X11_markedMany_4] at h
    refine z_iload_n cx rfl rfl dX11_markedMany_4 ?_
    refine z_aload_n cx rfl rfl dX11_markedMany_5 ?_
    refine q_getI (k := 48) (n := 4806) cx z_cl11 (j := 6) (by decide) tb_184 rfl (by decide) rfl rfl rfl dX11_markedMany_6 ?_
    refine z_icmp_ge (tgt := 27) cx (by decide) dX11_markedMany_9 (fun c1 => ?_) (fun c1 => ?_)
    · have h := g_t c1 h
      refine z_iload_n cx rfl rfl dX11_markedMany_27 ?_
      obtain ⟨rfl, rfl⟩ := g_some h
      exact z_ireturn cx ce rfl ⟨rfl, rfl⟩ dX11_markedMany_28
    · have h := g_f c1 h
      refine z_iload_n cx rfl rfl dX11_markedMany_12 ?_
      refine z_aload_n cx rfl rfl dX11_markedMany_13 ?_
      refine z_iload_n cx rfl rfl dX11_markedMany_14 ?_
      refine z_iconst (v := 4) cx (by decide +kernel) dX11_markedMany_15 ?_
      obtain ⟨v2, S3, e4, h⟩ := g_bd_ex h
      refine q_cvi (As := [.int x2, .int 4]) cx mo_X11_numberOf mv_X11_numberOf z_cl11 rfl tb_496 (by decide) rfl (by decide) rfl rfl (Nat.le_of_ble_eq_true rfl) dX11_markedMany_16 (c_X11_numberOf x2 4 _ e4) ?_
      refine z_iadd cx dX11_markedMany_19 ?_
      refine z_istore_n (L' := [some (.ref (z_ad g 48)), some (.int (x1 + v2)), some (.int x2)]) cx rfl (by decide) rfl dX11_markedMany_20 ?_
      refine z_iinc (c := 1) (L' := [some (.ref (z_ad g 48)), some (.int (x1 + v2)), some (.int (x2 + 1))]) cx rfl (by decide +kernel) (by decide) rfl dX11_markedMany_21 ?_
      refine z_goto (tgt := 4) cx (by decide) dX11_markedMany_24 ?_
      exact q_weak (z_wk_s (z_wk_s (z_wk_s (z_wk_0)))) (ih (x1 + v2) (x2 + 1) S3 h)
def f_X11_markedMany (n : Nat) (S : z_Stt) : Option (Int32 × z_Stt) :=
  f_X11_markedMany_4 n n 0 0 S
set_option maxHeartbeats 4000000 in
set_option maxRecDepth 100000 in
theorem t_X11_markedMany {g : z_G} {K : z_K} (n : Nat) {v : Int32} {S' : z_Stt} (cx : z_C g M_X11_markedMany 1 K) (ce : z_E' g M_X11_markedMany (z_P g (some (.int v)) S') K) (S : z_Stt) (h : f_X11_markedMany n S = some (v, S')) : z_At g M_X11_markedMany K 0 [some (.ref (z_ad g 48)), none, none] [] (hp g S) := by
  unfold f_X11_markedMany at h
  refine z_iconst (v := 0) cx (by decide +kernel) dX11_markedMany_0 ?_
  refine z_istore_n (L' := [some (.ref (z_ad g 48)), some (.int 0), none]) cx rfl (by decide) rfl dX11_markedMany_1 ?_
  refine z_iconst (v := 0) cx (by decide +kernel) dX11_markedMany_2 ?_
  refine z_istore_n (L' := [some (.ref (z_ad g 48)), some (.int 0), some (.int 0)]) cx rfl (by decide) rfl dX11_markedMany_3 ?_
  exact q_weak (z_wk_s (z_wk_s (z_wk_s (z_wk_0)))) (t_X11_markedMany_4 n cx ce n 0 0 S h)
theorem c_X11_markedMany {g : z_G} {n : Nat} (S : z_Stt) {v : Int32} {S' : z_Stt} (h : f_X11_markedMany n S = some (v, S')) : z_Ct g M_X11_markedMany 1 [.ref (z_ad g 48)] (hp g S) (z_P g (some (.int v)) S') :=
  z_Ct.of (by decide +kernel) rfl (Nat.le_of_ble_eq_true rfl) (fun K cx ce => q_weak (L' := [some (.ref (z_ad g 48)), none, none]) (z_wk_s (z_wk_e (z_wk_e (z_wk_0)))) (t_X11_markedMany n cx ce S h))
abbrev M_X11_isBody : z_M := (RX11, yX11_isBody, cX11_isBody, 2, some .boolean)
theorem mo_X11_isBody : z_mo M_X11_isBody 1 := ⟨tb_1104, tb_5, rfl, ⟨by decide +kernel, by decide +kernel⟩, by decide +kernel, by decide⟩
theorem mv_X11_isBody : z_mv M_X11_isBody := ⟨tb_1102, tb_1103⟩
def f_X11_isBody (a0 : Int32) (S : z_Stt) : Option (Bool × z_Stt) :=
  g_bd (f_X11_within (Int32.toInt64 a0) 0 (Int32.toInt64 ((S.1 4836) - 1)) S) fun v1 S2 =>
  some (v1, S2)
set_option maxHeartbeats 4000000 in
set_option maxRecDepth 100000 in
theorem t_X11_isBody {g : z_G} {K : z_K} {v : Bool} {S' : z_Stt} (cx : z_C g M_X11_isBody 1 K) (ce : z_E' g M_X11_isBody (z_P g (some (.int (bI v))) S') K) (a0 : Int32) (S : z_Stt) (h : f_X11_isBody a0 S = some (v, S')) : z_At g M_X11_isBody K 0 [some (.ref (z_ad g 48)), some (.int a0)] [] (hp g S) := by
  unfold f_X11_isBody at h
  refine z_iload_n cx rfl rfl dX11_isBody_0 ?_
  refine z_i2l cx dX11_isBody_1 ?_
  refine z_lconst (v := 0) cx (by decide +kernel) dX11_isBody_2 ?_
  refine z_aload_n cx rfl rfl dX11_isBody_3 ?_
  refine q_getI (k := 48) (n := 4836) cx z_cl11 (j := 36) (by decide) tb_1063 rfl (by decide) rfl rfl rfl dX11_isBody_4 ?_
  refine z_iconst (v := 1) cx (by decide +kernel) dX11_isBody_7 ?_
  refine z_isub cx dX11_isBody_8 ?_
  refine z_i2l cx dX11_isBody_9 ?_
  obtain ⟨v1, S2, e3, h⟩ := g_bd_ex h
  refine q_csi (As := [.long (Int32.toInt64 a0), .long 0, .long (Int32.toInt64 ((S.1 4836) - 1))]) cx mo_X11_within ms_X11_within tb_185 (by decide) rfl rfl (Nat.le_of_ble_eq_true rfl) dX11_isBody_10 (c_X11_within (Int32.toInt64 a0) 0 (Int32.toInt64 ((S.1 4836) - 1)) _ e3) ?_
  obtain ⟨rfl, rfl⟩ := g_some h
  exact z_zreturn cx ce rfl (bI_nar _) ⟨rfl, rfl⟩ dX11_isBody_13
theorem c_X11_isBody {g : z_G} (a0 : Int32) (S : z_Stt) {v : Bool} {S' : z_Stt} (h : f_X11_isBody a0 S = some (v, S')) : z_Ct g M_X11_isBody 1 [.ref (z_ad g 48), .int a0] (hp g S) (z_P g (some (.int (bI v))) S') :=
  z_Ct.of (by decide +kernel) rfl (Nat.le_of_ble_eq_true rfl) (fun K cx ce => q_weak (L' := [some (.ref (z_ad g 48)), some (.int a0)]) (z_wk_s (z_wk_s (z_wk_0))) (t_X11_isBody cx ce a0 S h))
abbrev M_X11_kindOf : z_M := (RX11, yX11_kindOf, cX11_kindOf, 2, some .int)
theorem mo_X11_kindOf : z_mo M_X11_kindOf 1 := ⟨tb_1228, tb_5, rfl, ⟨by decide +kernel, by decide +kernel⟩, by decide +kernel, by decide⟩
theorem mv_X11_kindOf : z_mv M_X11_kindOf := ⟨tb_1226, tb_1227⟩
def f_X11_kindOf (a0 : Int32) (S : z_Stt) : Option (Int32 × z_Stt) :=
  if ¬ (a0 < 0 ∨ 50 ≤ a0.toNatClampNeg) then
    some (S.2.2.1 64 a0.toNatClampNeg, S)
  else none
set_option maxHeartbeats 4000000 in
set_option maxRecDepth 100000 in
theorem t_X11_kindOf {g : z_G} {K : z_K} {v : Int32} {S' : z_Stt} (cx : z_C g M_X11_kindOf 0 K) (ce : z_E' g M_X11_kindOf (z_P g (some (.int v)) S') K) (a0 : Int32) (S : z_Stt) (h : f_X11_kindOf a0 S = some (v, S')) : z_At g M_X11_kindOf K 0 [some (.ref (z_ad g 48)), some (.int a0)] [] (hp g S) := by
  unfold f_X11_kindOf at h
  refine z_aload_n cx rfl rfl dX11_kindOf_0 ?_
  refine q_getF (k := 48) (n := 64) (r := 16) cx z_cl11 (j := 37) (by decide) tb_157 rfl (by decide) rfl rfl rfl dX11_kindOf_1 ?_
  refine z_iload_n cx rfl rfl dX11_kindOf_4 ?_
  obtain ⟨c1, h⟩ := g_if h
  refine q_iald cx (by decide) rfl c1 dX11_kindOf_5 ?_
  obtain ⟨rfl, rfl⟩ := g_some h
  exact z_ireturn cx ce rfl ⟨rfl, rfl⟩ dX11_kindOf_6
theorem c_X11_kindOf {g : z_G} (a0 : Int32) (S : z_Stt) {v : Int32} {S' : z_Stt} (h : f_X11_kindOf a0 S = some (v, S')) : z_Ct g M_X11_kindOf 0 [.ref (z_ad g 48), .int a0] (hp g S) (z_P g (some (.int v)) S') :=
  z_Ct.of (by decide +kernel) rfl (Nat.le_of_ble_eq_true rfl) (fun K cx ce => q_weak (L' := [some (.ref (z_ad g 48)), some (.int a0)]) (z_wk_s (z_wk_s (z_wk_0))) (t_X11_kindOf cx ce a0 S h))
abbrev M_X11_body : z_M := (RX11, yX11_body, cX11_body, 2, some .int)
theorem mo_X11_body : z_mo M_X11_body 1 := ⟨tb_1062, tb_5, rfl, ⟨by decide +kernel, by decide +kernel⟩, by decide +kernel, by decide⟩
theorem mv_X11_body : z_mv M_X11_body := ⟨tb_1060, tb_1061⟩
def f_X11_body (a0 : Int32) (S : z_Stt) : Option (Int32 × z_Stt) :=
  g_bd (f_X11_within (Int32.toInt64 a0) 0 7 S) fun v1 S2 =>
  if v1 = true then
    if S2.1 4836 = 50 then
      some ((-3), S2)
    else
      if ¬ (S2.1 4836 < 0 ∨ 50 ≤ (S2.1 4836).toNatClampNeg) then
        g_let (sA S2 64 (upd (S2.2.2.1 64) (S2.1 4836).toNatClampNeg a0)) fun S7 =>
        g_let (sI S7 4836 ((S7.1 4836) + 1)) fun S9 =>
        some ((S9.1 4836) - 1, S9)
      else none
  else
    some ((-1), S2)
set_option maxHeartbeats 4000000 in
set_option maxRecDepth 100000 in
theorem t_X11_body {g : z_G} {K : z_K} {v : Int32} {S' : z_Stt} (cx : z_C g M_X11_body 1 K) (ce : z_E' g M_X11_body (z_P g (some (.int v)) S') K) (a0 : Int32) (S : z_Stt) (h : f_X11_body a0 S = some (v, S')) : z_At g M_X11_body K 0 [some (.ref (z_ad g 48)), some (.int a0)] [] (hp g S) := by
  unfold f_X11_body at h
  refine z_iload_n cx rfl rfl dX11_body_0 ?_
  refine z_i2l cx dX11_body_1 ?_
  refine z_lconst (v := 0) cx (by decide +kernel) dX11_body_2 ?_
  refine z_ldc2 cx tb_823 dX11_body_3 ?_
  obtain ⟨v1, S2, e3, h⟩ := g_bd_ex h
  refine q_csi (As := [.long (Int32.toInt64 a0), .long 0, .long 7]) cx mo_X11_within ms_X11_within tb_185 (by decide) rfl rfl (Nat.le_of_ble_eq_true rfl) dX11_body_6 (c_X11_within (Int32.toInt64 a0) 0 7 _ e3) ?_
  refine q_ifb_ne (tgt := 14) cx (by decide) dX11_body_9 (fun c4 => ?_) (fun c4 => ?_)
  · have h := g_t c4 h
    refine z_aload_n cx rfl rfl dX11_body_14 ?_
    refine q_getI (k := 48) (n := 4836) cx z_cl11 (j := 36) (by decide) tb_1063 rfl (by decide) rfl rfl rfl dX11_body_15 ?_
    refine z_bipush (v := 50) cx (by decide +kernel) dX11_body_18 ?_
    refine z_icmp_ne (tgt := 26) cx (by decide) dX11_body_20 (fun c5 => ?_) (fun c5 => ?_)
    · have h := g_f c5 h
      refine z_aload_n cx rfl rfl dX11_body_26 ?_
      refine q_getF (k := 48) (n := 64) (r := 16) cx z_cl11 (j := 37) (by decide) tb_157 rfl (by decide) rfl rfl rfl dX11_body_27 ?_
      refine z_aload_n cx rfl rfl dX11_body_30 ?_
      refine q_getI (k := 48) (n := 4836) cx z_cl11 (j := 36) (by decide) tb_1063 rfl (by decide) rfl rfl rfl dX11_body_31 ?_
      refine z_iload_n cx rfl rfl dX11_body_34 ?_
      obtain ⟨c6, h⟩ := g_if h
      refine q_iast cx (by decide) rfl c6 dX11_body_35 ?_
      obtain ⟨S7, e8, h⟩ := g_let_ex h
      rw [← e8]
      refine z_aload_n cx rfl rfl dX11_body_36 ?_
      refine z_dup cx rfl dX11_body_37 ?_
      refine q_getI (k := 48) (n := 4836) cx z_cl11 (j := 36) (by decide) tb_1063 rfl (by decide) rfl rfl rfl dX11_body_38 ?_
      refine z_iconst (v := 1) cx (by decide +kernel) dX11_body_41 ?_
      refine z_iadd cx dX11_body_42 ?_
      refine q_putI (k := 48) (n := 4836) cx z_cl11 (j := 36) (by decide) tb_1063 rfl rfl rfl (by decide) rfl rfl rfl (by decide) (by decide) dX11_body_43 ?_
      obtain ⟨S9, e10, h⟩ := g_let_ex h
      rw [← e10]
      refine z_aload_n cx rfl rfl dX11_body_46 ?_
      refine q_getI (k := 48) (n := 4836) cx z_cl11 (j := 36) (by decide) tb_1063 rfl (by decide) rfl rfl rfl dX11_body_47 ?_
      refine z_iconst (v := 1) cx (by decide +kernel) dX11_body_50 ?_
      refine z_isub cx dX11_body_51 ?_
      obtain ⟨rfl, rfl⟩ := g_some h
      exact z_ireturn cx ce rfl ⟨rfl, rfl⟩ dX11_body_52
    · have h := g_t c5 h
      refine z_bipush (v := (-3)) cx (by decide +kernel) dX11_body_23 ?_
      obtain ⟨rfl, rfl⟩ := g_some h
      exact z_ireturn cx ce rfl ⟨rfl, rfl⟩ dX11_body_25
  · have h := g_f (Bool.eq_false_iff.mp c4) h
    refine z_iconst (v := (-1)) cx (by decide +kernel) dX11_body_12 ?_
    obtain ⟨rfl, rfl⟩ := g_some h
    exact z_ireturn cx ce rfl ⟨rfl, rfl⟩ dX11_body_13
theorem c_X11_body {g : z_G} (a0 : Int32) (S : z_Stt) {v : Int32} {S' : z_Stt} (h : f_X11_body a0 S = some (v, S')) : z_Ct g M_X11_body 1 [.ref (z_ad g 48), .int a0] (hp g S) (z_P g (some (.int v)) S') :=
  z_Ct.of (by decide +kernel) rfl (Nat.le_of_ble_eq_true rfl) (fun K cx ce => q_weak (L' := [some (.ref (z_ad g 48)), some (.int a0)]) (z_wk_s (z_wk_s (z_wk_0))) (t_X11_body cx ce a0 S h))
abbrev M_X11_above : z_M := (RX11, yX11_above, cX11_above, 1, some .int)
theorem mo_X11_above : z_mo M_X11_above 1 := ⟨tb_1231, tb_5, rfl, ⟨by decide +kernel, by decide +kernel⟩, by decide +kernel, by decide⟩
theorem ms_X11_above : z_ms M_X11_above := tb_1230
def f_X11_above (a0 : Int32) (S : z_Stt) : Option (Int32 × z_Stt) :=
  if a0 = 3 then
    some (2, S)
  else
    if a0 = 4 then
      some (1, S)
    else
      if a0 = 5 then
        some (3, S)
      else
        if a0 = 7 then
          some (4, S)
        else
          some (0, S)
set_option maxHeartbeats 4000000 in
set_option maxRecDepth 100000 in
theorem t_X11_above {g : z_G} {K : z_K} {v : Int32} {S' : z_Stt} (cx : z_C g M_X11_above 0 K) (ce : z_E' g M_X11_above (z_P g (some (.int v)) S') K) (a0 : Int32) (S : z_Stt) (h : f_X11_above a0 S = some (v, S')) : z_At g M_X11_above K 0 [some (.int a0)] [] (hp g S) := by
  unfold f_X11_above at h
  refine z_iload_n cx rfl rfl dX11_above_0 ?_
  refine z_iconst (v := 3) cx (by decide +kernel) dX11_above_1 ?_
  refine z_icmp_ne (tgt := 9) cx (by decide) dX11_above_2 (fun c1 => ?_) (fun c1 => ?_)
  · have h := g_f c1 h
    refine z_iload_n cx rfl rfl dX11_above_9 ?_
    refine z_iconst (v := 4) cx (by decide +kernel) dX11_above_10 ?_
    refine z_icmp_ne (tgt := 18) cx (by decide) dX11_above_11 (fun c2 => ?_) (fun c2 => ?_)
    · have h := g_f c2 h
      refine z_iload_n cx rfl rfl dX11_above_18 ?_
      refine z_iconst (v := 5) cx (by decide +kernel) dX11_above_19 ?_
      refine z_icmp_ne (tgt := 27) cx (by decide) dX11_above_20 (fun c3 => ?_) (fun c3 => ?_)
      · have h := g_f c3 h
        refine z_iload_n cx rfl rfl dX11_above_27 ?_
        refine z_bipush (v := 7) cx (by decide +kernel) dX11_above_28 ?_
        refine z_icmp_ne (tgt := 37) cx (by decide) dX11_above_30 (fun c4 => ?_) (fun c4 => ?_)
        · have h := g_f c4 h
          refine z_iconst (v := 0) cx (by decide +kernel) dX11_above_37 ?_
          obtain ⟨rfl, rfl⟩ := g_some h
          exact z_ireturn cx ce rfl ⟨rfl, rfl⟩ dX11_above_38
        · have h := g_t c4 h
          refine z_iconst (v := 4) cx (by decide +kernel) dX11_above_33 ?_
          refine z_goto (tgt := 38) cx (by decide) dX11_above_34 ?_
          obtain ⟨rfl, rfl⟩ := g_some h
          exact z_ireturn cx ce rfl ⟨rfl, rfl⟩ dX11_above_38
      · have h := g_t c3 h
        refine z_iconst (v := 3) cx (by decide +kernel) dX11_above_23 ?_
        refine z_goto (tgt := 38) cx (by decide) dX11_above_24 ?_
        obtain ⟨rfl, rfl⟩ := g_some h
        exact z_ireturn cx ce rfl ⟨rfl, rfl⟩ dX11_above_38
    · have h := g_t c2 h
      refine z_iconst (v := 1) cx (by decide +kernel) dX11_above_14 ?_
      refine z_goto (tgt := 38) cx (by decide) dX11_above_15 ?_
      obtain ⟨rfl, rfl⟩ := g_some h
      exact z_ireturn cx ce rfl ⟨rfl, rfl⟩ dX11_above_38
  · have h := g_t c1 h
    refine z_iconst (v := 2) cx (by decide +kernel) dX11_above_5 ?_
    refine z_goto (tgt := 38) cx (by decide) dX11_above_6 ?_
    obtain ⟨rfl, rfl⟩ := g_some h
    exact z_ireturn cx ce rfl ⟨rfl, rfl⟩ dX11_above_38
theorem c_X11_above {g : z_G} (a0 : Int32) (S : z_Stt) {v : Int32} {S' : z_Stt} (h : f_X11_above a0 S = some (v, S')) : z_Ct g M_X11_above 0 [.int a0] (hp g S) (z_P g (some (.int v)) S') :=
  z_Ct.of (by decide +kernel) rfl (Nat.le_of_ble_eq_true rfl) (fun K cx ce => q_weak (L' := [some (.int a0)]) (z_wk_s (z_wk_0)) (t_X11_above cx ce a0 S h))
abbrev M_X11_begins : z_M := (RX11, yX11_begins, cX11_begins, 2, none)
theorem mo_X11_begins : z_mo M_X11_begins 1 := ⟨tb_1112, tb_5, rfl, ⟨by decide +kernel, by decide +kernel⟩, by decide +kernel, by decide⟩
theorem mv_X11_begins : z_mv M_X11_begins := ⟨tb_1110, tb_1111⟩
def f_X11_begins_19 (S : z_Stt) : Option (Unit × z_Stt) :=
  g_let (sI S 4839 ((S.1 4839) + 1)) fun S1 =>
  some ((), S1)
set_option maxHeartbeats 4000000 in
set_option maxRecDepth 100000 in
theorem t_X11_begins_19 {g : z_G} {K : z_K} {v : Unit} {S' : z_Stt} (cx : z_C g M_X11_begins 0 K) (ce : z_E' g M_X11_begins (z_P g (none) S') K) (S : z_Stt) (h : f_X11_begins_19 S = some (v, S')) : z_At g M_X11_begins K 19 [some (.ref (z_ad g 48)), none] [] (hp g S) := by
  unfold f_X11_begins_19 at h
  refine z_aload_n cx rfl rfl dX11_begins_19 ?_
  refine z_dup cx rfl dX11_begins_20 ?_
  refine q_getI (k := 48) (n := 4839) cx z_cl11 (j := 39) (by decide) tb_1098 rfl (by decide) rfl rfl rfl dX11_begins_21 ?_
  refine z_iconst (v := 1) cx (by decide +kernel) dX11_begins_24 ?_
  refine z_iadd cx dX11_begins_25 ?_
  refine q_putI (k := 48) (n := 4839) cx z_cl11 (j := 39) (by decide) tb_1098 rfl rfl rfl (by decide) rfl rfl rfl (by decide) (by decide) dX11_begins_26 ?_
  obtain ⟨S1, e2, h⟩ := g_let_ex h
  rw [← e2]
  obtain ⟨rfl, rfl⟩ := g_some h
  exact z_return cx ce rfl ⟨rfl, rfl⟩ dX11_begins_29
def f_X11_begins (a0 : Int32) (S : z_Stt) : Option (Unit × z_Stt) :=
  if 24 ≤ S.1 4839 then
    f_X11_begins_19 S
  else
    if ¬ (S.1 4839 < 0 ∨ 24 ≤ (S.1 4839).toNatClampNeg) then
      g_let (sA S 65 (upd (S.2.2.1 65) (S.1 4839).toNatClampNeg a0)) fun S3 =>
      f_X11_begins_19 S3
    else none
set_option maxHeartbeats 4000000 in
set_option maxRecDepth 100000 in
theorem t_X11_begins {g : z_G} {K : z_K} {v : Unit} {S' : z_Stt} (cx : z_C g M_X11_begins 0 K) (ce : z_E' g M_X11_begins (z_P g (none) S') K) (a0 : Int32) (S : z_Stt) (h : f_X11_begins a0 S = some (v, S')) : z_At g M_X11_begins K 0 [some (.ref (z_ad g 48)), some (.int a0)] [] (hp g S) := by
  unfold f_X11_begins at h
  refine z_aload_n cx rfl rfl dX11_begins_0 ?_
  refine q_getI (k := 48) (n := 4839) cx z_cl11 (j := 39) (by decide) tb_1098 rfl (by decide) rfl rfl rfl dX11_begins_1 ?_
  refine z_bipush (v := 24) cx (by decide +kernel) dX11_begins_4 ?_
  refine z_icmp_ge (tgt := 19) cx (by decide) dX11_begins_6 (fun c1 => ?_) (fun c1 => ?_)
  · have h := g_t c1 h
    exact q_weak (z_wk_s (z_wk_n (z_wk_0))) (t_X11_begins_19 cx ce S h)
  · have h := g_f c1 h
    refine z_aload_n cx rfl rfl dX11_begins_9 ?_
    refine q_getF (k := 48) (n := 65) (r := 17) cx z_cl11 (j := 38) (by decide) tb_158 rfl (by decide) rfl rfl rfl dX11_begins_10 ?_
    refine z_aload_n cx rfl rfl dX11_begins_13 ?_
    refine q_getI (k := 48) (n := 4839) cx z_cl11 (j := 39) (by decide) tb_1098 rfl (by decide) rfl rfl rfl dX11_begins_14 ?_
    refine z_iload_n cx rfl rfl dX11_begins_17 ?_
    obtain ⟨c2, h⟩ := g_if h
    refine q_iast cx (by decide) rfl c2 dX11_begins_18 ?_
    obtain ⟨S3, e4, h⟩ := g_let_ex h
    rw [← e4]
    exact q_weak (z_wk_s (z_wk_n (z_wk_0))) (t_X11_begins_19 cx ce S3 h)
theorem c_X11_begins {g : z_G} (a0 : Int32) (S : z_Stt) {v : Unit} {S' : z_Stt} (h : f_X11_begins a0 S = some (v, S')) : z_Ct g M_X11_begins 0 [.ref (z_ad g 48), .int a0] (hp g S) (z_P g (none) S') :=
  z_Ct.of (by decide +kernel) rfl (Nat.le_of_ble_eq_true rfl) (fun K cx ce => q_weak (L' := [some (.ref (z_ad g 48)), some (.int a0)]) (z_wk_s (z_wk_s (z_wk_0))) (t_X11_begins cx ce a0 S h))
abbrev GT_X11_goesAs : Type := (Int32 → Int32 → z_Stt → Option (Int32 × z_Stt))
def HG_X11_goesAs (g : z_G) (G : GT_X11_goesAs) (d0 : Nat) : Prop := (∀ (a0 : Int32) (a1 : Int32) (S : z_Stt) (v : Int32) (S' : z_Stt), G a0 a1 S = some (v, S') → z_Ct g (RX11, yX11_goesAs, cX11_goesAs, 3, some .int) d0 [.ref (z_ad g 48), .int a0, .int a1] (hp g S) (z_P g (some (.int v)) S'))
abbrev M_X11_goesAs : z_M := (RX11, yX11_goesAs, cX11_goesAs, 3, some .int)
theorem mo_X11_goesAs : z_mo M_X11_goesAs 2 := ⟨tb_1108, tb_5, rfl, ⟨by decide +kernel, by decide +kernel⟩, by decide +kernel, by decide⟩
theorem mv_X11_goesAs : z_mv M_X11_goesAs := ⟨tb_1106, tb_1107⟩
def f_X11_goesAs_16 (G : GT_X11_goesAs) (x2 : Int32) (S : z_Stt) : Option (Int32 × z_Stt) :=
  g_bd (f_X11_begins 20 S) fun v1 S2 =>
  g_bd (G 0 x2 S2) fun v4 S5 =>
  some (v4 + 3, S5)
set_option maxHeartbeats 4000000 in
set_option maxRecDepth 100000 in
theorem t_X11_goesAs_16 {g : z_G} {K : z_K} (G : GT_X11_goesAs) {d0 : Nat} (hG : HG_X11_goesAs g G d0) (hb : 0 ≤ d0) {v : Int32} {S' : z_Stt} (cx : z_C g M_X11_goesAs (d0 + 1) K) (ce : z_E' g M_X11_goesAs (z_P g (some (.int v)) S') K) (x2 : Int32) (S : z_Stt) (h : f_X11_goesAs_16 G x2 S = some (v, S')) : z_At g M_X11_goesAs K 16 [some (.ref (z_ad g 48)), none, some (.int x2)] [] (hp g S) := by
  unfold f_X11_goesAs_16 at h
  refine z_aload_n cx rfl rfl dX11_goesAs_16 ?_
  refine z_bipush (v := 20) cx (by decide +kernel) dX11_goesAs_17 ?_
  obtain ⟨v1, S2, e3, h⟩ := g_bd_ex h
  refine q_cvv (As := [.int 20]) cx mo_X11_begins mv_X11_begins z_cl11 rfl tb_1109 (by omega) rfl (by decide) rfl rfl (Nat.le_of_ble_eq_true rfl) dX11_goesAs_19 (c_X11_begins 20 _ e3) ?_
  refine z_aload_n cx rfl rfl dX11_goesAs_22 ?_
  refine z_iconst (v := 0) cx (by decide +kernel) dX11_goesAs_23 ?_
  refine z_iload_n cx rfl rfl dX11_goesAs_24 ?_
  obtain ⟨v4, S5, e6, h⟩ := g_bd_ex h
  refine q_cvi (As := [.int 0, .int x2]) cx mo_X11_goesAs mv_X11_goesAs z_cl11 rfl tb_1105 (Nat.le_refl _) rfl (by decide) rfl rfl (Nat.le_of_ble_eq_true rfl) dX11_goesAs_25 (hG 0 x2 _ _ _ e6) ?_
  refine z_iconst (v := 3) cx (by decide +kernel) dX11_goesAs_28 ?_
  refine z_iadd cx dX11_goesAs_29 ?_
  obtain ⟨rfl, rfl⟩ := g_some h
  exact z_ireturn cx ce rfl ⟨rfl, rfl⟩ dX11_goesAs_30
def f_X11_goesAs (G : GT_X11_goesAs) (a0 : Int32) (a1 : Int32) (S : z_Stt) : Option (Int32 × z_Stt) :=
  if a0 = 1 then
    f_X11_goesAs_16 G a1 S
  else
    if a0 = 4 then
      f_X11_goesAs_16 G a1 S
    else
      if a0 = 7 then
        f_X11_goesAs_16 G a1 S
      else
        if a0 = 6 then
          g_bd (f_X11_begins 70 S) fun v8 S9 =>
          g_bd (G 0 a1 S9) fun v11 S12 =>
          some (v11 * 2, S12)
        else
          g_bd (f_X11_begins 1 S) fun v5 S6 =>
          some (a1 + (S6.1 4841), S6)
set_option maxHeartbeats 4000000 in
set_option maxRecDepth 100000 in
theorem t_X11_goesAs {g : z_G} {K : z_K} (G : GT_X11_goesAs) {d0 : Nat} (hG : HG_X11_goesAs g G d0) (hb : 0 ≤ d0) {v : Int32} {S' : z_Stt} (cx : z_C g M_X11_goesAs (d0 + 1) K) (ce : z_E' g M_X11_goesAs (z_P g (some (.int v)) S') K) (a0 : Int32) (a1 : Int32) (S : z_Stt) (h : f_X11_goesAs G a0 a1 S = some (v, S')) : z_At g M_X11_goesAs K 0 [some (.ref (z_ad g 48)), some (.int a0), some (.int a1)] [] (hp g S) := by
  unfold f_X11_goesAs at h
  refine z_iload_n cx rfl rfl dX11_goesAs_0 ?_
  refine z_iconst (v := 1) cx (by decide +kernel) dX11_goesAs_1 ?_
  refine z_icmp_eq (tgt := 16) cx (by decide) dX11_goesAs_2 (fun c1 => ?_) (fun c1 => ?_)
  · have h := g_t c1 h
    exact q_weak (z_wk_s (z_wk_n (z_wk_s (z_wk_0)))) (t_X11_goesAs_16 G hG hb cx ce a1 S h)
  · have h := g_f c1 h
    refine z_iload_n cx rfl rfl dX11_goesAs_5 ?_
    refine z_iconst (v := 4) cx (by decide +kernel) dX11_goesAs_6 ?_
    refine z_icmp_eq (tgt := 16) cx (by decide) dX11_goesAs_7 (fun c2 => ?_) (fun c2 => ?_)
    · have h := g_t c2 h
      exact q_weak (z_wk_s (z_wk_n (z_wk_s (z_wk_0)))) (t_X11_goesAs_16 G hG hb cx ce a1 S h)
    · have h := g_f c2 h
      refine z_iload_n cx rfl rfl dX11_goesAs_10 ?_
      refine z_bipush (v := 7) cx (by decide +kernel) dX11_goesAs_11 ?_
      refine z_icmp_ne (tgt := 31) cx (by decide) dX11_goesAs_13 (fun c3 => ?_) (fun c3 => ?_)
      · have h := g_f c3 h
        refine z_iload_n cx rfl rfl dX11_goesAs_31 ?_
        refine z_bipush (v := 6) cx (by decide +kernel) dX11_goesAs_32 ?_
        refine z_icmp_ne (tgt := 52) cx (by decide) dX11_goesAs_34 (fun c4 => ?_) (fun c4 => ?_)
        · have h := g_f c4 h
          refine z_aload_n cx rfl rfl dX11_goesAs_52 ?_
          refine z_iconst (v := 1) cx (by decide +kernel) dX11_goesAs_53 ?_
          obtain ⟨v5, S6, e7, h⟩ := g_bd_ex h
          refine q_cvv (As := [.int 1]) cx mo_X11_begins mv_X11_begins z_cl11 rfl tb_1109 (by omega) rfl (by decide) rfl rfl (Nat.le_of_ble_eq_true rfl) dX11_goesAs_54 (c_X11_begins 1 _ e7) ?_
          refine z_iload_n cx rfl rfl dX11_goesAs_57 ?_
          refine z_aload_n cx rfl rfl dX11_goesAs_58 ?_
          refine q_getI (k := 48) (n := 4841) cx z_cl11 (j := 41) (by decide) tb_1100 rfl (by decide) rfl rfl rfl dX11_goesAs_59 ?_
          refine z_iadd cx dX11_goesAs_62 ?_
          obtain ⟨rfl, rfl⟩ := g_some h
          exact z_ireturn cx ce rfl ⟨rfl, rfl⟩ dX11_goesAs_63
        · have h := g_t c4 h
          refine z_aload_n cx rfl rfl dX11_goesAs_37 ?_
          refine z_bipush (v := 70) cx (by decide +kernel) dX11_goesAs_38 ?_
          obtain ⟨v8, S9, e10, h⟩ := g_bd_ex h
          refine q_cvv (As := [.int 70]) cx mo_X11_begins mv_X11_begins z_cl11 rfl tb_1109 (by omega) rfl (by decide) rfl rfl (Nat.le_of_ble_eq_true rfl) dX11_goesAs_40 (c_X11_begins 70 _ e10) ?_
          refine z_aload_n cx rfl rfl dX11_goesAs_43 ?_
          refine z_iconst (v := 0) cx (by decide +kernel) dX11_goesAs_44 ?_
          refine z_iload_n cx rfl rfl dX11_goesAs_45 ?_
          obtain ⟨v11, S12, e13, h⟩ := g_bd_ex h
          refine q_cvi (As := [.int 0, .int a1]) cx mo_X11_goesAs mv_X11_goesAs z_cl11 rfl tb_1105 (Nat.le_refl _) rfl (by decide) rfl rfl (Nat.le_of_ble_eq_true rfl) dX11_goesAs_46 (hG 0 a1 _ _ _ e13) ?_
          refine z_iconst (v := 2) cx (by decide +kernel) dX11_goesAs_49 ?_
          refine z_imul cx dX11_goesAs_50 ?_
          obtain ⟨rfl, rfl⟩ := g_some h
          exact z_ireturn cx ce rfl ⟨rfl, rfl⟩ dX11_goesAs_51
      · have h := g_t c3 h
        exact q_weak (z_wk_s (z_wk_n (z_wk_s (z_wk_0)))) (t_X11_goesAs_16 G hG hb cx ce a1 S h)
theorem c_X11_goesAs {g : z_G} {G : GT_X11_goesAs} {d0 : Nat} (hG : HG_X11_goesAs g G d0) (hb : 0 ≤ d0) (a0 : Int32) (a1 : Int32) (S : z_Stt) {v : Int32} {S' : z_Stt} (h : f_X11_goesAs G a0 a1 S = some (v, S')) : z_Ct g M_X11_goesAs (d0 + 1) [.ref (z_ad g 48), .int a0, .int a1] (hp g S) (z_P g (some (.int v)) S') :=
  z_Ct.of (by decide +kernel) rfl (Nat.le_of_ble_eq_true rfl) (fun K cx ce => q_weak (L' := [some (.ref (z_ad g 48)), some (.int a0), some (.int a1)]) (z_wk_s (z_wk_s (z_wk_s (z_wk_0)))) (t_X11_goesAs G hG hb cx ce a0 a1 S h))
def g_X11_goesAs : Nat → GT_X11_goesAs
  | 0 => (fun _ _ _ => none)
  | dp + 1 => (f_X11_goesAs (g_X11_goesAs dp))
set_option maxHeartbeats 4000000 in
set_option maxRecDepth 100000 in
theorem hg_X11_goesAs {g : z_G} : ∀ dp : Nat, HG_X11_goesAs g (g_X11_goesAs dp) (0 + dp) := by
  intro dp
  induction dp with
  | zero => exact (fun _ _ _ _ _ h => nomatch h)
  | succ dp ih => exact (fun a0 a1 S v S' h => c_X11_goesAs ih (Nat.le_add_right _ _) a0 a1 S h)
theorem cg_X11_goesAs {g : z_G} (a0 : Int32) (a1 : Int32) (S : z_Stt) {v : Int32} {S' : z_Stt} (h : (g_X11_goesAs 64) a0 a1 S = some (v, S')) : z_Ct g M_X11_goesAs 64 [.ref (z_ad g 48), .int a0, .int a1] (hp g S) (z_P g (some (.int v)) S') := (hg_X11_goesAs 64) a0 a1 S _ _ h
abbrev GT_X11_shutsAs : Type := (Int32 → Int32 → z_Stt → Option (Int32 × z_Stt))
def HG_X11_shutsAs (g : z_G) (G : GT_X11_shutsAs) (d0 : Nat) : Prop := (∀ (a0 : Int32) (a1 : Int32) (S : z_Stt) (v : Int32) (S' : z_Stt), G a0 a1 S = some (v, S') → z_Ct g (RX11, yX11_shutsAs, cX11_shutsAs, 4, some .int) d0 [.ref (z_ad g 48), .int a0, .int a1] (hp g S) (z_P g (some (.int v)) S'))
abbrev M_X11_shutsAs : z_M := (RX11, yX11_shutsAs, cX11_shutsAs, 4, some .int)
theorem mo_X11_shutsAs : z_mo M_X11_shutsAs 2 := ⟨tb_1120, tb_5, rfl, ⟨by decide +kernel, by decide +kernel⟩, by decide +kernel, by decide⟩
theorem mv_X11_shutsAs : z_mv M_X11_shutsAs := ⟨tb_1118, tb_1119⟩
def f_X11_shutsAs_10 (G : GT_X11_shutsAs) (x2 : Int32) (S : z_Stt) : Option (Int32 × z_Stt) :=
  g_bd (f_X11_begins 40 S) fun v1 S2 =>
  g_bd (G 2 x2 S2) fun v4 S5 =>
  some (v4 * 3, S5)
set_option maxHeartbeats 4000000 in
set_option maxRecDepth 100000 in
theorem t_X11_shutsAs_10 {g : z_G} {K : z_K} (G : GT_X11_shutsAs) {d0 : Nat} (hG : HG_X11_shutsAs g G d0) (hb : 64 ≤ d0) {v : Int32} {S' : z_Stt} (cx : z_C g M_X11_shutsAs (d0 + 1) K) (ce : z_E' g M_X11_shutsAs (z_P g (some (.int v)) S') K) (x2 : Int32) (S : z_Stt) (h : f_X11_shutsAs_10 G x2 S = some (v, S')) : z_At g M_X11_shutsAs K 10 [some (.ref (z_ad g 48)), none, some (.int x2), none] [] (hp g S) := by
  unfold f_X11_shutsAs_10 at h
  refine z_aload_n cx rfl rfl dX11_shutsAs_10 ?_
  refine z_bipush (v := 40) cx (by decide +kernel) dX11_shutsAs_11 ?_
  obtain ⟨v1, S2, e3, h⟩ := g_bd_ex h
  refine q_cvv (As := [.int 40]) cx mo_X11_begins mv_X11_begins z_cl11 rfl tb_1109 (by omega) rfl (by decide) rfl rfl (Nat.le_of_ble_eq_true rfl) dX11_shutsAs_13 (c_X11_begins 40 _ e3) ?_
  refine z_aload_n cx rfl rfl dX11_shutsAs_16 ?_
  refine z_iconst (v := 2) cx (by decide +kernel) dX11_shutsAs_17 ?_
  refine z_iload_n cx rfl rfl dX11_shutsAs_18 ?_
  obtain ⟨v4, S5, e6, h⟩ := g_bd_ex h
  refine q_cvi (As := [.int 2, .int x2]) cx mo_X11_shutsAs mv_X11_shutsAs z_cl11 rfl tb_1117 (Nat.le_refl _) rfl (by decide) rfl rfl (Nat.le_of_ble_eq_true rfl) dX11_shutsAs_19 (hG 2 x2 _ _ _ e6) ?_
  refine z_iconst (v := 3) cx (by decide +kernel) dX11_shutsAs_22 ?_
  refine z_imul cx dX11_shutsAs_23 ?_
  obtain ⟨rfl, rfl⟩ := g_some h
  exact z_ireturn cx ce rfl ⟨rfl, rfl⟩ dX11_shutsAs_24
def f_X11_shutsAs_36 (G : GT_X11_shutsAs) (x2 : Int32) (S : z_Stt) : Option (Int32 × z_Stt) :=
  g_bd (f_X11_begins 50 S) fun v1 S2 =>
  g_bd (G 1 x2 S2) fun v4 S5 =>
  g_bd ((g_X11_goesAs 64) (S5.1 4840) 2 S5) fun v7 S8 =>
  some (v4 - v7, S8)
set_option maxHeartbeats 4000000 in
set_option maxRecDepth 100000 in
theorem t_X11_shutsAs_36 {g : z_G} {K : z_K} (G : GT_X11_shutsAs) {d0 : Nat} (hG : HG_X11_shutsAs g G d0) (hb : 64 ≤ d0) {v : Int32} {S' : z_Stt} (cx : z_C g M_X11_shutsAs (d0 + 1) K) (ce : z_E' g M_X11_shutsAs (z_P g (some (.int v)) S') K) (x2 : Int32) (S : z_Stt) (h : f_X11_shutsAs_36 G x2 S = some (v, S')) : z_At g M_X11_shutsAs K 36 [some (.ref (z_ad g 48)), none, some (.int x2), none] [] (hp g S) := by
  unfold f_X11_shutsAs_36 at h
  refine z_aload_n cx rfl rfl dX11_shutsAs_36 ?_
  refine z_bipush (v := 50) cx (by decide +kernel) dX11_shutsAs_37 ?_
  obtain ⟨v1, S2, e3, h⟩ := g_bd_ex h
  refine q_cvv (As := [.int 50]) cx mo_X11_begins mv_X11_begins z_cl11 rfl tb_1109 (by omega) rfl (by decide) rfl rfl (Nat.le_of_ble_eq_true rfl) dX11_shutsAs_39 (c_X11_begins 50 _ e3) ?_
  refine z_aload_n cx rfl rfl dX11_shutsAs_42 ?_
  refine z_iconst (v := 1) cx (by decide +kernel) dX11_shutsAs_43 ?_
  refine z_iload_n cx rfl rfl dX11_shutsAs_44 ?_
  obtain ⟨v4, S5, e6, h⟩ := g_bd_ex h
  refine q_cvi (As := [.int 1, .int x2]) cx mo_X11_shutsAs mv_X11_shutsAs z_cl11 rfl tb_1117 (Nat.le_refl _) rfl (by decide) rfl rfl (Nat.le_of_ble_eq_true rfl) dX11_shutsAs_45 (hG 1 x2 _ _ _ e6) ?_
  refine z_istore_n (L' := [some (.ref (z_ad g 48)), none, some (.int x2), some (.int v4)]) cx rfl (by decide) rfl dX11_shutsAs_48 ?_
  refine z_iload_n cx rfl rfl dX11_shutsAs_49 ?_
  refine z_aload_n cx rfl rfl dX11_shutsAs_50 ?_
  refine z_aload_n cx rfl rfl dX11_shutsAs_51 ?_
  refine q_getI (k := 48) (n := 4840) cx z_cl11 (j := 40) (by decide) tb_1099 rfl (by decide) rfl rfl rfl dX11_shutsAs_52 ?_
  refine z_iconst (v := 2) cx (by decide +kernel) dX11_shutsAs_55 ?_
  obtain ⟨v7, S8, e9, h⟩ := g_bd_ex h
  refine q_cvi (As := [.int (S5.1 4840), .int 2]) cx mo_X11_goesAs mv_X11_goesAs z_cl11 rfl tb_1105 (by omega) rfl (by decide) rfl rfl (Nat.le_of_ble_eq_true rfl) dX11_shutsAs_56 (cg_X11_goesAs (S5.1 4840) 2 _ e9) ?_
  refine z_isub cx dX11_shutsAs_59 ?_
  obtain ⟨rfl, rfl⟩ := g_some h
  exact z_ireturn cx ce rfl ⟨rfl, rfl⟩ dX11_shutsAs_60
def f_X11_shutsAs (G : GT_X11_shutsAs) (a0 : Int32) (a1 : Int32) (S : z_Stt) : Option (Int32 × z_Stt) :=
  if a0 = 3 then
    f_X11_shutsAs_10 G a1 S
  else
    if a0 = 5 then
      f_X11_shutsAs_10 G a1 S
    else
      if a0 = 4 then
        f_X11_shutsAs_36 G a1 S
      else
        if a0 = 7 then
          f_X11_shutsAs_36 G a1 S
        else
          g_bd (f_X11_begins 11 S) fun v5 S6 =>
          some (a1 ^^^ (S6.1 4841), S6)
set_option maxHeartbeats 4000000 in
set_option maxRecDepth 100000 in
theorem t_X11_shutsAs {g : z_G} {K : z_K} (G : GT_X11_shutsAs) {d0 : Nat} (hG : HG_X11_shutsAs g G d0) (hb : 64 ≤ d0) {v : Int32} {S' : z_Stt} (cx : z_C g M_X11_shutsAs (d0 + 1) K) (ce : z_E' g M_X11_shutsAs (z_P g (some (.int v)) S') K) (a0 : Int32) (a1 : Int32) (S : z_Stt) (h : f_X11_shutsAs G a0 a1 S = some (v, S')) : z_At g M_X11_shutsAs K 0 [some (.ref (z_ad g 48)), some (.int a0), some (.int a1), none] [] (hp g S) := by
  unfold f_X11_shutsAs at h
  refine z_iload_n cx rfl rfl dX11_shutsAs_0 ?_
  refine z_iconst (v := 3) cx (by decide +kernel) dX11_shutsAs_1 ?_
  refine z_icmp_eq (tgt := 10) cx (by decide) dX11_shutsAs_2 (fun c1 => ?_) (fun c1 => ?_)
  · have h := g_t c1 h
    exact q_weak (z_wk_s (z_wk_n (z_wk_s (z_wk_n (z_wk_0))))) (t_X11_shutsAs_10 G hG hb cx ce a1 S h)
  · have h := g_f c1 h
    refine z_iload_n cx rfl rfl dX11_shutsAs_5 ?_
    refine z_iconst (v := 5) cx (by decide +kernel) dX11_shutsAs_6 ?_
    refine z_icmp_ne (tgt := 25) cx (by decide) dX11_shutsAs_7 (fun c2 => ?_) (fun c2 => ?_)
    · have h := g_f c2 h
      refine z_iload_n cx rfl rfl dX11_shutsAs_25 ?_
      refine z_iconst (v := 4) cx (by decide +kernel) dX11_shutsAs_26 ?_
      refine z_icmp_eq (tgt := 36) cx (by decide) dX11_shutsAs_27 (fun c3 => ?_) (fun c3 => ?_)
      · have h := g_t c3 h
        exact q_weak (z_wk_s (z_wk_n (z_wk_s (z_wk_n (z_wk_0))))) (t_X11_shutsAs_36 G hG hb cx ce a1 S h)
      · have h := g_f c3 h
        refine z_iload_n cx rfl rfl dX11_shutsAs_30 ?_
        refine z_bipush (v := 7) cx (by decide +kernel) dX11_shutsAs_31 ?_
        refine z_icmp_ne (tgt := 61) cx (by decide) dX11_shutsAs_33 (fun c4 => ?_) (fun c4 => ?_)
        · have h := g_f c4 h
          refine z_aload_n cx rfl rfl dX11_shutsAs_61 ?_
          refine z_bipush (v := 11) cx (by decide +kernel) dX11_shutsAs_62 ?_
          obtain ⟨v5, S6, e7, h⟩ := g_bd_ex h
          refine q_cvv (As := [.int 11]) cx mo_X11_begins mv_X11_begins z_cl11 rfl tb_1109 (by omega) rfl (by decide) rfl rfl (Nat.le_of_ble_eq_true rfl) dX11_shutsAs_64 (c_X11_begins 11 _ e7) ?_
          refine z_iload_n cx rfl rfl dX11_shutsAs_67 ?_
          refine z_aload_n cx rfl rfl dX11_shutsAs_68 ?_
          refine q_getI (k := 48) (n := 4841) cx z_cl11 (j := 41) (by decide) tb_1100 rfl (by decide) rfl rfl rfl dX11_shutsAs_69 ?_
          refine z_ixor cx dX11_shutsAs_72 ?_
          obtain ⟨rfl, rfl⟩ := g_some h
          exact z_ireturn cx ce rfl ⟨rfl, rfl⟩ dX11_shutsAs_73
        · have h := g_t c4 h
          exact q_weak (z_wk_s (z_wk_n (z_wk_s (z_wk_n (z_wk_0))))) (t_X11_shutsAs_36 G hG hb cx ce a1 S h)
    · have h := g_t c2 h
      exact q_weak (z_wk_s (z_wk_n (z_wk_s (z_wk_n (z_wk_0))))) (t_X11_shutsAs_10 G hG hb cx ce a1 S h)
theorem c_X11_shutsAs {g : z_G} {G : GT_X11_shutsAs} {d0 : Nat} (hG : HG_X11_shutsAs g G d0) (hb : 64 ≤ d0) (a0 : Int32) (a1 : Int32) (S : z_Stt) {v : Int32} {S' : z_Stt} (h : f_X11_shutsAs G a0 a1 S = some (v, S')) : z_Ct g M_X11_shutsAs (d0 + 1) [.ref (z_ad g 48), .int a0, .int a1] (hp g S) (z_P g (some (.int v)) S') :=
  z_Ct.of (by decide +kernel) rfl (Nat.le_of_ble_eq_true rfl) (fun K cx ce => q_weak (L' := [some (.ref (z_ad g 48)), some (.int a0), some (.int a1), none]) (z_wk_s (z_wk_s (z_wk_s (z_wk_e (z_wk_0))))) (t_X11_shutsAs G hG hb cx ce a0 a1 S h))
def g_X11_shutsAs : Nat → GT_X11_shutsAs
  | 0 => (fun _ _ _ => none)
  | dp + 1 => (f_X11_shutsAs (g_X11_shutsAs dp))
set_option maxHeartbeats 4000000 in
set_option maxRecDepth 100000 in
theorem hg_X11_shutsAs {g : z_G} : ∀ dp : Nat, HG_X11_shutsAs g (g_X11_shutsAs dp) (64 + dp) := by
  intro dp
  induction dp with
  | zero => exact (fun _ _ _ _ _ h => nomatch h)
  | succ dp ih => exact (fun a0 a1 S v S' h => c_X11_shutsAs ih (Nat.le_add_right _ _) a0 a1 S h)
theorem cg_X11_shutsAs {g : z_G} (a0 : Int32) (a1 : Int32) (S : z_Stt) {v : Int32} {S' : z_Stt} (h : (g_X11_shutsAs 64) a0 a1 S = some (v, S')) : z_Ct g M_X11_shutsAs 128 [.ref (z_ad g 48), .int a0, .int a1] (hp g S) (z_P g (some (.int v)) S') := (hg_X11_shutsAs 64) a0 a1 S _ _ h
abbrev GT_X11_looksAs : Type := (Int32 → Int32 → z_Stt → Option (Int32 × z_Stt))
def HG_X11_looksAs (g : z_G) (G : GT_X11_looksAs) (d0 : Nat) : Prop := (∀ (a0 : Int32) (a1 : Int32) (S : z_Stt) (v : Int32) (S' : z_Stt), G a0 a1 S = some (v, S') → z_Ct g (RX11, yX11_looksAs, cX11_looksAs, 4, some .int) d0 [.ref (z_ad g 48), .int a0, .int a1] (hp g S) (z_P g (some (.int v)) S'))
abbrev M_X11_looksAs : z_M := (RX11, yX11_looksAs, cX11_looksAs, 4, some .int)
theorem mo_X11_looksAs : z_mo M_X11_looksAs 2 := ⟨tb_1116, tb_5, rfl, ⟨by decide +kernel, by decide +kernel⟩, by decide +kernel, by decide⟩
theorem mv_X11_looksAs : z_mv M_X11_looksAs := ⟨tb_1114, tb_1115⟩
def f_X11_looksAs_10 (G : GT_X11_looksAs) (x2 : Int32) (S : z_Stt) : Option (Int32 × z_Stt) :=
  g_bd (f_X11_begins 41 S) fun v1 S2 =>
  g_bd (G 2 (x2 + 1) S2) fun v4 S5 =>
  some (v4, S5)
set_option maxHeartbeats 4000000 in
set_option maxRecDepth 100000 in
theorem t_X11_looksAs_10 {g : z_G} {K : z_K} (G : GT_X11_looksAs) {d0 : Nat} (hG : HG_X11_looksAs g G d0) (hb : 128 ≤ d0) {v : Int32} {S' : z_Stt} (cx : z_C g M_X11_looksAs (d0 + 1) K) (ce : z_E' g M_X11_looksAs (z_P g (some (.int v)) S') K) (x2 : Int32) (S : z_Stt) (h : f_X11_looksAs_10 G x2 S = some (v, S')) : z_At g M_X11_looksAs K 10 [some (.ref (z_ad g 48)), none, some (.int x2), none] [] (hp g S) := by
  unfold f_X11_looksAs_10 at h
  refine z_aload_n cx rfl rfl dX11_looksAs_10 ?_
  refine z_bipush (v := 41) cx (by decide +kernel) dX11_looksAs_11 ?_
  obtain ⟨v1, S2, e3, h⟩ := g_bd_ex h
  refine q_cvv (As := [.int 41]) cx mo_X11_begins mv_X11_begins z_cl11 rfl tb_1109 (by omega) rfl (by decide) rfl rfl (Nat.le_of_ble_eq_true rfl) dX11_looksAs_13 (c_X11_begins 41 _ e3) ?_
  refine z_aload_n cx rfl rfl dX11_looksAs_16 ?_
  refine z_iconst (v := 2) cx (by decide +kernel) dX11_looksAs_17 ?_
  refine z_iload_n cx rfl rfl dX11_looksAs_18 ?_
  refine z_iconst (v := 1) cx (by decide +kernel) dX11_looksAs_19 ?_
  refine z_iadd cx dX11_looksAs_20 ?_
  obtain ⟨v4, S5, e6, h⟩ := g_bd_ex h
  refine q_cvi (As := [.int 2, .int (x2 + 1)]) cx mo_X11_looksAs mv_X11_looksAs z_cl11 rfl tb_1113 (Nat.le_refl _) rfl (by decide) rfl rfl (Nat.le_of_ble_eq_true rfl) dX11_looksAs_21 (hG 2 (x2 + 1) _ _ _ e6) ?_
  obtain ⟨rfl, rfl⟩ := g_some h
  exact z_ireturn cx ce rfl ⟨rfl, rfl⟩ dX11_looksAs_24
def f_X11_looksAs (G : GT_X11_looksAs) (a0 : Int32) (a1 : Int32) (S : z_Stt) : Option (Int32 × z_Stt) :=
  if a0 = 3 then
    f_X11_looksAs_10 G a1 S
  else
    if a0 = 5 then
      f_X11_looksAs_10 G a1 S
    else
      if a0 = 2 then
        g_bd (f_X11_begins 30 S) fun v20 S21 =>
        g_bd (G 0 a1 S21) fun v23 S24 =>
        some (-v23, S24)
      else
        if a0 = 7 then
          g_bd (f_X11_begins 80 S) fun v11 S12 =>
          g_bd (G 4 a1 S12) fun v14 S15 =>
          g_bd ((g_X11_shutsAs 64) (S15.1 4840) 2 S15) fun v17 S18 =>
          some (v14 + v17, S18)
        else
          g_bd (f_X11_begins 10 S) fun v5 S6 =>
          g_bd ((g_X11_goesAs 64) (S6.1 4840) a1 S6) fun v8 S9 =>
          some (v8 * 2, S9)
set_option maxHeartbeats 4000000 in
set_option maxRecDepth 100000 in
theorem t_X11_looksAs {g : z_G} {K : z_K} (G : GT_X11_looksAs) {d0 : Nat} (hG : HG_X11_looksAs g G d0) (hb : 128 ≤ d0) {v : Int32} {S' : z_Stt} (cx : z_C g M_X11_looksAs (d0 + 1) K) (ce : z_E' g M_X11_looksAs (z_P g (some (.int v)) S') K) (a0 : Int32) (a1 : Int32) (S : z_Stt) (h : f_X11_looksAs G a0 a1 S = some (v, S')) : z_At g M_X11_looksAs K 0 [some (.ref (z_ad g 48)), some (.int a0), some (.int a1), none] [] (hp g S) := by
  unfold f_X11_looksAs at h
  refine z_iload_n cx rfl rfl dX11_looksAs_0 ?_
  refine z_iconst (v := 3) cx (by decide +kernel) dX11_looksAs_1 ?_
  refine z_icmp_eq (tgt := 10) cx (by decide) dX11_looksAs_2 (fun c1 => ?_) (fun c1 => ?_)
  · have h := g_t c1 h
    exact q_weak (z_wk_s (z_wk_n (z_wk_s (z_wk_n (z_wk_0))))) (t_X11_looksAs_10 G hG hb cx ce a1 S h)
  · have h := g_f c1 h
    refine z_iload_n cx rfl rfl dX11_looksAs_5 ?_
    refine z_iconst (v := 5) cx (by decide +kernel) dX11_looksAs_6 ?_
    refine z_icmp_ne (tgt := 25) cx (by decide) dX11_looksAs_7 (fun c2 => ?_) (fun c2 => ?_)
    · have h := g_f c2 h
      refine z_iload_n cx rfl rfl dX11_looksAs_25 ?_
      refine z_iconst (v := 2) cx (by decide +kernel) dX11_looksAs_26 ?_
      refine z_icmp_ne (tgt := 44) cx (by decide) dX11_looksAs_27 (fun c3 => ?_) (fun c3 => ?_)
      · have h := g_f c3 h
        refine z_iload_n cx rfl rfl dX11_looksAs_44 ?_
        refine z_bipush (v := 7) cx (by decide +kernel) dX11_looksAs_45 ?_
        refine z_icmp_ne (tgt := 75) cx (by decide) dX11_looksAs_47 (fun c4 => ?_) (fun c4 => ?_)
        · have h := g_f c4 h
          refine z_aload_n cx rfl rfl dX11_looksAs_75 ?_
          refine z_bipush (v := 10) cx (by decide +kernel) dX11_looksAs_76 ?_
          obtain ⟨v5, S6, e7, h⟩ := g_bd_ex h
          refine q_cvv (As := [.int 10]) cx mo_X11_begins mv_X11_begins z_cl11 rfl tb_1109 (by omega) rfl (by decide) rfl rfl (Nat.le_of_ble_eq_true rfl) dX11_looksAs_78 (c_X11_begins 10 _ e7) ?_
          refine z_aload_n cx rfl rfl dX11_looksAs_81 ?_
          refine z_aload_n cx rfl rfl dX11_looksAs_82 ?_
          refine q_getI (k := 48) (n := 4840) cx z_cl11 (j := 40) (by decide) tb_1099 rfl (by decide) rfl rfl rfl dX11_looksAs_83 ?_
          refine z_iload_n cx rfl rfl dX11_looksAs_86 ?_
          obtain ⟨v8, S9, e10, h⟩ := g_bd_ex h
          refine q_cvi (As := [.int (S6.1 4840), .int a1]) cx mo_X11_goesAs mv_X11_goesAs z_cl11 rfl tb_1105 (by omega) rfl (by decide) rfl rfl (Nat.le_of_ble_eq_true rfl) dX11_looksAs_87 (cg_X11_goesAs (S6.1 4840) a1 _ e10) ?_
          refine z_iconst (v := 2) cx (by decide +kernel) dX11_looksAs_90 ?_
          refine z_imul cx dX11_looksAs_91 ?_
          obtain ⟨rfl, rfl⟩ := g_some h
          exact z_ireturn cx ce rfl ⟨rfl, rfl⟩ dX11_looksAs_92
        · have h := g_t c4 h
          refine z_aload_n cx rfl rfl dX11_looksAs_50 ?_
          refine z_bipush (v := 80) cx (by decide +kernel) dX11_looksAs_51 ?_
          obtain ⟨v11, S12, e13, h⟩ := g_bd_ex h
          refine q_cvv (As := [.int 80]) cx mo_X11_begins mv_X11_begins z_cl11 rfl tb_1109 (by omega) rfl (by decide) rfl rfl (Nat.le_of_ble_eq_true rfl) dX11_looksAs_53 (c_X11_begins 80 _ e13) ?_
          refine z_aload_n cx rfl rfl dX11_looksAs_56 ?_
          refine z_iconst (v := 4) cx (by decide +kernel) dX11_looksAs_57 ?_
          refine z_iload_n cx rfl rfl dX11_looksAs_58 ?_
          obtain ⟨v14, S15, e16, h⟩ := g_bd_ex h
          refine q_cvi (As := [.int 4, .int a1]) cx mo_X11_looksAs mv_X11_looksAs z_cl11 rfl tb_1113 (Nat.le_refl _) rfl (by decide) rfl rfl (Nat.le_of_ble_eq_true rfl) dX11_looksAs_59 (hG 4 a1 _ _ _ e16) ?_
          refine z_istore_n (L' := [some (.ref (z_ad g 48)), some (.int a0), some (.int a1), some (.int v14)]) cx rfl (by decide) rfl dX11_looksAs_62 ?_
          refine z_iload_n cx rfl rfl dX11_looksAs_63 ?_
          refine z_aload_n cx rfl rfl dX11_looksAs_64 ?_
          refine z_aload_n cx rfl rfl dX11_looksAs_65 ?_
          refine q_getI (k := 48) (n := 4840) cx z_cl11 (j := 40) (by decide) tb_1099 rfl (by decide) rfl rfl rfl dX11_looksAs_66 ?_
          refine z_iconst (v := 2) cx (by decide +kernel) dX11_looksAs_69 ?_
          obtain ⟨v17, S18, e19, h⟩ := g_bd_ex h
          refine q_cvi (As := [.int (S15.1 4840), .int 2]) cx mo_X11_shutsAs mv_X11_shutsAs z_cl11 rfl tb_1117 (by omega) rfl (by decide) rfl rfl (Nat.le_of_ble_eq_true rfl) dX11_looksAs_70 (cg_X11_shutsAs (S15.1 4840) 2 _ e19) ?_
          refine z_iadd cx dX11_looksAs_73 ?_
          obtain ⟨rfl, rfl⟩ := g_some h
          exact z_ireturn cx ce rfl ⟨rfl, rfl⟩ dX11_looksAs_74
      · have h := g_t c3 h
        refine z_aload_n cx rfl rfl dX11_looksAs_30 ?_
        refine z_bipush (v := 30) cx (by decide +kernel) dX11_looksAs_31 ?_
        obtain ⟨v20, S21, e22, h⟩ := g_bd_ex h
        refine q_cvv (As := [.int 30]) cx mo_X11_begins mv_X11_begins z_cl11 rfl tb_1109 (by omega) rfl (by decide) rfl rfl (Nat.le_of_ble_eq_true rfl) dX11_looksAs_33 (c_X11_begins 30 _ e22) ?_
        refine z_aload_n cx rfl rfl dX11_looksAs_36 ?_
        refine z_iconst (v := 0) cx (by decide +kernel) dX11_looksAs_37 ?_
        refine z_iload_n cx rfl rfl dX11_looksAs_38 ?_
        obtain ⟨v23, S24, e25, h⟩ := g_bd_ex h
        refine q_cvi (As := [.int 0, .int a1]) cx mo_X11_looksAs mv_X11_looksAs z_cl11 rfl tb_1113 (Nat.le_refl _) rfl (by decide) rfl rfl (Nat.le_of_ble_eq_true rfl) dX11_looksAs_39 (hG 0 a1 _ _ _ e25) ?_
        refine z_ineg cx dX11_looksAs_42 ?_
        obtain ⟨rfl, rfl⟩ := g_some h
        exact z_ireturn cx ce rfl ⟨rfl, rfl⟩ dX11_looksAs_43
    · have h := g_t c2 h
      exact q_weak (z_wk_s (z_wk_n (z_wk_s (z_wk_n (z_wk_0))))) (t_X11_looksAs_10 G hG hb cx ce a1 S h)
theorem c_X11_looksAs {g : z_G} {G : GT_X11_looksAs} {d0 : Nat} (hG : HG_X11_looksAs g G d0) (hb : 128 ≤ d0) (a0 : Int32) (a1 : Int32) (S : z_Stt) {v : Int32} {S' : z_Stt} (h : f_X11_looksAs G a0 a1 S = some (v, S')) : z_Ct g M_X11_looksAs (d0 + 1) [.ref (z_ad g 48), .int a0, .int a1] (hp g S) (z_P g (some (.int v)) S') :=
  z_Ct.of (by decide +kernel) rfl (Nat.le_of_ble_eq_true rfl) (fun K cx ce => q_weak (L' := [some (.ref (z_ad g 48)), some (.int a0), some (.int a1), none]) (z_wk_s (z_wk_s (z_wk_s (z_wk_e (z_wk_0))))) (t_X11_looksAs G hG hb cx ce a0 a1 S h))
def g_X11_looksAs : Nat → GT_X11_looksAs
  | 0 => (fun _ _ _ => none)
  | dp + 1 => (f_X11_looksAs (g_X11_looksAs dp))
set_option maxHeartbeats 4000000 in
set_option maxRecDepth 100000 in
theorem hg_X11_looksAs {g : z_G} : ∀ dp : Nat, HG_X11_looksAs g (g_X11_looksAs dp) (128 + dp) := by
  intro dp
  induction dp with
  | zero => exact (fun _ _ _ _ _ h => nomatch h)
  | succ dp ih => exact (fun a0 a1 S v S' h => c_X11_looksAs ih (Nat.le_add_right _ _) a0 a1 S h)
theorem cg_X11_looksAs {g : z_G} (a0 : Int32) (a1 : Int32) (S : z_Stt) {v : Int32} {S' : z_Stt} (h : (g_X11_looksAs 64) a0 a1 S = some (v, S')) : z_Ct g M_X11_looksAs 192 [.ref (z_ad g 48), .int a0, .int a1] (hp g S) (z_P g (some (.int v)) S') := (hg_X11_looksAs 64) a0 a1 S _ _ h
abbrev GT_X11_tellsAs : Type := (Int32 → Int32 → z_Stt → Option (Int32 × z_Stt))
def HG_X11_tellsAs (g : z_G) (G : GT_X11_tellsAs) (d0 : Nat) : Prop := (∀ (a0 : Int32) (a1 : Int32) (S : z_Stt) (v : Int32) (S' : z_Stt), G a0 a1 S = some (v, S') → z_Ct g (RX11, yX11_tellsAs, cX11_tellsAs, 4, some .int) d0 [.ref (z_ad g 48), .int a0, .int a1] (hp g S) (z_P g (some (.int v)) S'))
abbrev M_X11_tellsAs : z_M := (RX11, yX11_tellsAs, cX11_tellsAs, 4, some .int)
theorem mo_X11_tellsAs : z_mo M_X11_tellsAs 2 := ⟨tb_1124, tb_5, rfl, ⟨by decide +kernel, by decide +kernel⟩, by decide +kernel, by decide⟩
theorem mv_X11_tellsAs : z_mv M_X11_tellsAs := ⟨tb_1122, tb_1123⟩
def f_X11_tellsAs (G : GT_X11_tellsAs) (a0 : Int32) (a1 : Int32) (S : z_Stt) : Option (Int32 × z_Stt) :=
  if a0 = 5 then
    g_bd (f_X11_begins 60 S) fun v18 S19 =>
    g_bd (G 3 a1 S19) fun v21 S22 =>
    some (v21 ^^^ 5, S22)
  else
    if a0 = 7 then
      g_bd (f_X11_begins 81 S) fun v12 S13 =>
      g_bd (G 4 a1 S13) fun v15 S16 =>
      some (v15 - 1, S16)
    else
      g_bd (f_X11_begins 2 S) fun v3 S4 =>
      g_bd ((g_X11_looksAs 64) (S4.1 4840) a1 S4) fun v6 S7 =>
      g_bd ((g_X11_shutsAs 64) (S7.1 4840) 1 S7) fun v9 S10 =>
      some (v6 - v9, S10)
set_option maxHeartbeats 4000000 in
set_option maxRecDepth 100000 in
theorem t_X11_tellsAs {g : z_G} {K : z_K} (G : GT_X11_tellsAs) {d0 : Nat} (hG : HG_X11_tellsAs g G d0) (hb : 192 ≤ d0) {v : Int32} {S' : z_Stt} (cx : z_C g M_X11_tellsAs (d0 + 1) K) (ce : z_E' g M_X11_tellsAs (z_P g (some (.int v)) S') K) (a0 : Int32) (a1 : Int32) (S : z_Stt) (h : f_X11_tellsAs G a0 a1 S = some (v, S')) : z_At g M_X11_tellsAs K 0 [some (.ref (z_ad g 48)), some (.int a0), some (.int a1), none] [] (hp g S) := by
  unfold f_X11_tellsAs at h
  refine z_iload_n cx rfl rfl dX11_tellsAs_0 ?_
  refine z_iconst (v := 5) cx (by decide +kernel) dX11_tellsAs_1 ?_
  refine z_icmp_ne (tgt := 20) cx (by decide) dX11_tellsAs_2 (fun c1 => ?_) (fun c1 => ?_)
  · have h := g_f c1 h
    refine z_iload_n cx rfl rfl dX11_tellsAs_20 ?_
    refine z_bipush (v := 7) cx (by decide +kernel) dX11_tellsAs_21 ?_
    refine z_icmp_ne (tgt := 41) cx (by decide) dX11_tellsAs_23 (fun c2 => ?_) (fun c2 => ?_)
    · have h := g_f c2 h
      refine z_aload_n cx rfl rfl dX11_tellsAs_41 ?_
      refine z_iconst (v := 2) cx (by decide +kernel) dX11_tellsAs_42 ?_
      obtain ⟨v3, S4, e5, h⟩ := g_bd_ex h
      refine q_cvv (As := [.int 2]) cx mo_X11_begins mv_X11_begins z_cl11 rfl tb_1109 (by omega) rfl (by decide) rfl rfl (Nat.le_of_ble_eq_true rfl) dX11_tellsAs_43 (c_X11_begins 2 _ e5) ?_
      refine z_aload_n cx rfl rfl dX11_tellsAs_46 ?_
      refine z_aload_n cx rfl rfl dX11_tellsAs_47 ?_
      refine q_getI (k := 48) (n := 4840) cx z_cl11 (j := 40) (by decide) tb_1099 rfl (by decide) rfl rfl rfl dX11_tellsAs_48 ?_
      refine z_iload_n cx rfl rfl dX11_tellsAs_51 ?_
      obtain ⟨v6, S7, e8, h⟩ := g_bd_ex h
      refine q_cvi (As := [.int (S4.1 4840), .int a1]) cx mo_X11_looksAs mv_X11_looksAs z_cl11 rfl tb_1113 (by omega) rfl (by decide) rfl rfl (Nat.le_of_ble_eq_true rfl) dX11_tellsAs_52 (cg_X11_looksAs (S4.1 4840) a1 _ e8) ?_
      refine z_istore_n (L' := [some (.ref (z_ad g 48)), some (.int a0), some (.int a1), some (.int v6)]) cx rfl (by decide) rfl dX11_tellsAs_55 ?_
      refine z_iload_n cx rfl rfl dX11_tellsAs_56 ?_
      refine z_aload_n cx rfl rfl dX11_tellsAs_57 ?_
      refine z_aload_n cx rfl rfl dX11_tellsAs_58 ?_
      refine q_getI (k := 48) (n := 4840) cx z_cl11 (j := 40) (by decide) tb_1099 rfl (by decide) rfl rfl rfl dX11_tellsAs_59 ?_
      refine z_iconst (v := 1) cx (by decide +kernel) dX11_tellsAs_62 ?_
      obtain ⟨v9, S10, e11, h⟩ := g_bd_ex h
      refine q_cvi (As := [.int (S7.1 4840), .int 1]) cx mo_X11_shutsAs mv_X11_shutsAs z_cl11 rfl tb_1117 (by omega) rfl (by decide) rfl rfl (Nat.le_of_ble_eq_true rfl) dX11_tellsAs_63 (cg_X11_shutsAs (S7.1 4840) 1 _ e11) ?_
      refine z_isub cx dX11_tellsAs_66 ?_
      obtain ⟨rfl, rfl⟩ := g_some h
      exact z_ireturn cx ce rfl ⟨rfl, rfl⟩ dX11_tellsAs_67
    · have h := g_t c2 h
      refine z_aload_n cx rfl rfl dX11_tellsAs_26 ?_
      refine z_bipush (v := 81) cx (by decide +kernel) dX11_tellsAs_27 ?_
      obtain ⟨v12, S13, e14, h⟩ := g_bd_ex h
      refine q_cvv (As := [.int 81]) cx mo_X11_begins mv_X11_begins z_cl11 rfl tb_1109 (by omega) rfl (by decide) rfl rfl (Nat.le_of_ble_eq_true rfl) dX11_tellsAs_29 (c_X11_begins 81 _ e14) ?_
      refine z_aload_n cx rfl rfl dX11_tellsAs_32 ?_
      refine z_iconst (v := 4) cx (by decide +kernel) dX11_tellsAs_33 ?_
      refine z_iload_n cx rfl rfl dX11_tellsAs_34 ?_
      obtain ⟨v15, S16, e17, h⟩ := g_bd_ex h
      refine q_cvi (As := [.int 4, .int a1]) cx mo_X11_tellsAs mv_X11_tellsAs z_cl11 rfl tb_1121 (Nat.le_refl _) rfl (by decide) rfl rfl (Nat.le_of_ble_eq_true rfl) dX11_tellsAs_35 (hG 4 a1 _ _ _ e17) ?_
      refine z_iconst (v := 1) cx (by decide +kernel) dX11_tellsAs_38 ?_
      refine z_isub cx dX11_tellsAs_39 ?_
      obtain ⟨rfl, rfl⟩ := g_some h
      exact z_ireturn cx ce rfl ⟨rfl, rfl⟩ dX11_tellsAs_40
  · have h := g_t c1 h
    refine z_aload_n cx rfl rfl dX11_tellsAs_5 ?_
    refine z_bipush (v := 60) cx (by decide +kernel) dX11_tellsAs_6 ?_
    obtain ⟨v18, S19, e20, h⟩ := g_bd_ex h
    refine q_cvv (As := [.int 60]) cx mo_X11_begins mv_X11_begins z_cl11 rfl tb_1109 (by omega) rfl (by decide) rfl rfl (Nat.le_of_ble_eq_true rfl) dX11_tellsAs_8 (c_X11_begins 60 _ e20) ?_
    refine z_aload_n cx rfl rfl dX11_tellsAs_11 ?_
    refine z_iconst (v := 3) cx (by decide +kernel) dX11_tellsAs_12 ?_
    refine z_iload_n cx rfl rfl dX11_tellsAs_13 ?_
    obtain ⟨v21, S22, e23, h⟩ := g_bd_ex h
    refine q_cvi (As := [.int 3, .int a1]) cx mo_X11_tellsAs mv_X11_tellsAs z_cl11 rfl tb_1121 (Nat.le_refl _) rfl (by decide) rfl rfl (Nat.le_of_ble_eq_true rfl) dX11_tellsAs_14 (hG 3 a1 _ _ _ e23) ?_
    refine z_iconst (v := 5) cx (by decide +kernel) dX11_tellsAs_17 ?_
    refine z_ixor cx dX11_tellsAs_18 ?_
    obtain ⟨rfl, rfl⟩ := g_some h
    exact z_ireturn cx ce rfl ⟨rfl, rfl⟩ dX11_tellsAs_19
theorem c_X11_tellsAs {g : z_G} {G : GT_X11_tellsAs} {d0 : Nat} (hG : HG_X11_tellsAs g G d0) (hb : 192 ≤ d0) (a0 : Int32) (a1 : Int32) (S : z_Stt) {v : Int32} {S' : z_Stt} (h : f_X11_tellsAs G a0 a1 S = some (v, S')) : z_Ct g M_X11_tellsAs (d0 + 1) [.ref (z_ad g 48), .int a0, .int a1] (hp g S) (z_P g (some (.int v)) S') :=
  z_Ct.of (by decide +kernel) rfl (Nat.le_of_ble_eq_true rfl) (fun K cx ce => q_weak (L' := [some (.ref (z_ad g 48)), some (.int a0), some (.int a1), none]) (z_wk_s (z_wk_s (z_wk_s (z_wk_e (z_wk_0))))) (t_X11_tellsAs G hG hb cx ce a0 a1 S h))
def g_X11_tellsAs : Nat → GT_X11_tellsAs
  | 0 => (fun _ _ _ => none)
  | dp + 1 => (f_X11_tellsAs (g_X11_tellsAs dp))
set_option maxHeartbeats 4000000 in
set_option maxRecDepth 100000 in
theorem hg_X11_tellsAs {g : z_G} : ∀ dp : Nat, HG_X11_tellsAs g (g_X11_tellsAs dp) (192 + dp) := by
  intro dp
  induction dp with
  | zero => exact (fun _ _ _ _ _ h => nomatch h)
  | succ dp ih => exact (fun a0 a1 S v S' h => c_X11_tellsAs ih (Nat.le_add_right _ _) a0 a1 S h)
theorem cg_X11_tellsAs {g : z_G} (a0 : Int32) (a1 : Int32) (S : z_Stt) {v : Int32} {S' : z_Stt} (h : (g_X11_tellsAs 64) a0 a1 S = some (v, S')) : z_Ct g M_X11_tellsAs 256 [.ref (z_ad g 48), .int a0, .int a1] (hp g S) (z_P g (some (.int v)) S') := (hg_X11_tellsAs 64) a0 a1 S _ _ h
abbrev M_X11_act : z_M := (RX11, yX11_act, cX11_act, 4, some .int)
theorem mo_X11_act : z_mo M_X11_act 3 := ⟨tb_1097, tb_5, rfl, ⟨by decide +kernel, by decide +kernel⟩, by decide +kernel, by decide⟩
theorem mv_X11_act : z_mv M_X11_act := ⟨tb_1095, tb_1096⟩
def f_X11_act (a0 : Int32) (a1 : Int32) (a2 : Int32) (S : z_Stt) : Option (Int32 × z_Stt) :=
  g_let (sI S 4839 0) fun S1 =>
  g_bd (f_X11_isBody a0 S1) fun v3 S4 =>
  if v3 = true then
    if ¬ (a0 < 0 ∨ 50 ≤ a0.toNatClampNeg) then
      g_let (sI S4 4840 (S4.2.2.1 64 a0.toNatClampNeg)) fun S8 =>
      g_let (sI S8 4841 a0) fun S10 =>
      if a1 = 0 then
        g_bd ((g_X11_goesAs 64) (S10.1 4840) a2 S10) fun v13 S14 =>
        some (v13, S14)
      else if a1 = 1 then
        g_bd ((g_X11_looksAs 64) (S10.1 4840) a2 S10) fun v17 S18 =>
        some (v17, S18)
      else if a1 = 2 then
        g_bd ((g_X11_shutsAs 64) (S10.1 4840) a2 S10) fun v21 S22 =>
        some (v21, S22)
      else if a1 = 3 then
        g_bd ((g_X11_tellsAs 64) (S10.1 4840) a2 S10) fun v25 S26 =>
        some (v25, S26)
      else 
        some (0, S10)
    else none
  else
    some (0, S4)
set_option maxHeartbeats 4000000 in
set_option maxRecDepth 100000 in
theorem t_X11_act {g : z_G} {K : z_K} {v : Int32} {S' : z_Stt} (cx : z_C g M_X11_act 257 K) (ce : z_E' g M_X11_act (z_P g (some (.int v)) S') K) (a0 : Int32) (a1 : Int32) (a2 : Int32) (S : z_Stt) (h : f_X11_act a0 a1 a2 S = some (v, S')) : z_At g M_X11_act K 0 [some (.ref (z_ad g 48)), some (.int a0), some (.int a1), some (.int a2)] [] (hp g S) := by
  unfold f_X11_act at h
  refine z_aload_n cx rfl rfl dX11_act_0 ?_
  refine z_iconst (v := 0) cx (by decide +kernel) dX11_act_1 ?_
  refine q_putI (k := 48) (n := 4839) cx z_cl11 (j := 39) (by decide) tb_1098 rfl rfl rfl (by decide) rfl rfl rfl (by decide) (by decide) dX11_act_2 ?_
  obtain ⟨S1, e2, h⟩ := g_let_ex h
  rw [← e2]
  refine z_aload_n cx rfl rfl dX11_act_5 ?_
  refine z_iload_n cx rfl rfl dX11_act_6 ?_
  obtain ⟨v3, S4, e5, h⟩ := g_bd_ex h
  refine q_cvi (As := [.int a0]) cx mo_X11_isBody mv_X11_isBody z_cl11 rfl tb_1101 (by decide) rfl (by decide) rfl rfl (Nat.le_of_ble_eq_true rfl) dX11_act_7 (c_X11_isBody a0 _ e5) ?_
  refine q_ifb_ne (tgt := 15) cx (by decide) dX11_act_10 (fun c6 => ?_) (fun c6 => ?_)
  · have h := g_t c6 h
    refine z_aload_n cx rfl rfl dX11_act_15 ?_
    refine z_aload_n cx rfl rfl dX11_act_16 ?_
    refine q_getF (k := 48) (n := 64) (r := 16) cx z_cl11 (j := 37) (by decide) tb_157 rfl (by decide) rfl rfl rfl dX11_act_17 ?_
    refine z_iload_n cx rfl rfl dX11_act_20 ?_
    obtain ⟨c7, h⟩ := g_if h
    refine q_iald cx (by decide) rfl c7 dX11_act_21 ?_
    refine q_putI (k := 48) (n := 4840) cx z_cl11 (j := 40) (by decide) tb_1099 rfl rfl rfl (by decide) rfl rfl rfl (by decide) (by decide) dX11_act_22 ?_
    obtain ⟨S8, e9, h⟩ := g_let_ex h
    rw [← e9]
    refine z_aload_n cx rfl rfl dX11_act_25 ?_
    refine z_iload_n cx rfl rfl dX11_act_26 ?_
    refine q_putI (k := 48) (n := 4841) cx z_cl11 (j := 41) (by decide) tb_1100 rfl rfl rfl (by decide) rfl rfl rfl (by decide) (by decide) dX11_act_27 ?_
    obtain ⟨S10, e11, h⟩ := g_let_ex h
    rw [← e11]
    refine z_iload_n cx rfl rfl dX11_act_30 ?_
    by_cases c12 : a1 = 0
    · have h := g_t c12 h
      refine z_tableIn (tgt := 60) (off := 29) cx (by rw [c12]; decide +kernel) (by rw [c12]; decide +kernel) (by rw [c12]; decide +kernel) (by decide) dX11_act_31 ?_
      refine z_aload_n cx rfl rfl dX11_act_60 ?_
      refine z_aload_n cx rfl rfl dX11_act_61 ?_
      refine q_getI (k := 48) (n := 4840) cx z_cl11 (j := 40) (by decide) tb_1099 rfl (by decide) rfl rfl rfl dX11_act_62 ?_
      refine z_iload_n cx rfl rfl dX11_act_65 ?_
      obtain ⟨v13, S14, e15, h⟩ := g_bd_ex h
      refine q_cvi (As := [.int (S10.1 4840), .int a2]) cx mo_X11_goesAs mv_X11_goesAs z_cl11 rfl tb_1105 (by decide) rfl (by decide) rfl rfl (Nat.le_of_ble_eq_true rfl) dX11_act_66 (cg_X11_goesAs (S10.1 4840) a2 _ e15) ?_
      obtain ⟨rfl, rfl⟩ := g_some h
      exact z_ireturn cx ce rfl ⟨rfl, rfl⟩ dX11_act_69
    have h := g_f c12 h
    by_cases c16 : a1 = 1
    · have h := g_t c16 h
      refine z_tableIn (tgt := 70) (off := 39) cx (by rw [c16]; decide +kernel) (by rw [c16]; decide +kernel) (by rw [c16]; decide +kernel) (by decide) dX11_act_31 ?_
      refine z_aload_n cx rfl rfl dX11_act_70 ?_
      refine z_aload_n cx rfl rfl dX11_act_71 ?_
      refine q_getI (k := 48) (n := 4840) cx z_cl11 (j := 40) (by decide) tb_1099 rfl (by decide) rfl rfl rfl dX11_act_72 ?_
      refine z_iload_n cx rfl rfl dX11_act_75 ?_
      obtain ⟨v17, S18, e19, h⟩ := g_bd_ex h
      refine q_cvi (As := [.int (S10.1 4840), .int a2]) cx mo_X11_looksAs mv_X11_looksAs z_cl11 rfl tb_1113 (by decide) rfl (by decide) rfl rfl (Nat.le_of_ble_eq_true rfl) dX11_act_76 (cg_X11_looksAs (S10.1 4840) a2 _ e19) ?_
      obtain ⟨rfl, rfl⟩ := g_some h
      exact z_ireturn cx ce rfl ⟨rfl, rfl⟩ dX11_act_79
    have h := g_f c16 h
    by_cases c20 : a1 = 2
    · have h := g_t c20 h
      refine z_tableIn (tgt := 80) (off := 49) cx (by rw [c20]; decide +kernel) (by rw [c20]; decide +kernel) (by rw [c20]; decide +kernel) (by decide) dX11_act_31 ?_
      refine z_aload_n cx rfl rfl dX11_act_80 ?_
      refine z_aload_n cx rfl rfl dX11_act_81 ?_
      refine q_getI (k := 48) (n := 4840) cx z_cl11 (j := 40) (by decide) tb_1099 rfl (by decide) rfl rfl rfl dX11_act_82 ?_
      refine z_iload_n cx rfl rfl dX11_act_85 ?_
      obtain ⟨v21, S22, e23, h⟩ := g_bd_ex h
      refine q_cvi (As := [.int (S10.1 4840), .int a2]) cx mo_X11_shutsAs mv_X11_shutsAs z_cl11 rfl tb_1117 (by decide) rfl (by decide) rfl rfl (Nat.le_of_ble_eq_true rfl) dX11_act_86 (cg_X11_shutsAs (S10.1 4840) a2 _ e23) ?_
      obtain ⟨rfl, rfl⟩ := g_some h
      exact z_ireturn cx ce rfl ⟨rfl, rfl⟩ dX11_act_89
    have h := g_f c20 h
    by_cases c24 : a1 = 3
    · have h := g_t c24 h
      refine z_tableIn (tgt := 90) (off := 59) cx (by rw [c24]; decide +kernel) (by rw [c24]; decide +kernel) (by rw [c24]; decide +kernel) (by decide) dX11_act_31 ?_
      refine z_aload_n cx rfl rfl dX11_act_90 ?_
      refine z_aload_n cx rfl rfl dX11_act_91 ?_
      refine q_getI (k := 48) (n := 4840) cx z_cl11 (j := 40) (by decide) tb_1099 rfl (by decide) rfl rfl rfl dX11_act_92 ?_
      refine z_iload_n cx rfl rfl dX11_act_95 ?_
      obtain ⟨v25, S26, e27, h⟩ := g_bd_ex h
      refine q_cvi (As := [.int (S10.1 4840), .int a2]) cx mo_X11_tellsAs mv_X11_tellsAs z_cl11 rfl tb_1121 (by decide) rfl (by decide) rfl rfl (Nat.le_of_ble_eq_true rfl) dX11_act_96 (cg_X11_tellsAs (S10.1 4840) a2 _ e27) ?_
      obtain ⟨rfl, rfl⟩ := g_some h
      exact z_ireturn cx ce rfl ⟨rfl, rfl⟩ dX11_act_99
    have h := g_f c24 h
    refine q_tableD (tgt := 100) (lo := 0) (hi := 3) cx [0, 1, 2, 3] (by decide +kernel) (by intro a ha; simp only [List.mem_cons, List.not_mem_nil, or_false] at ha; rcases ha with rfl | rfl | rfl | rfl <;> assumption) (by decide) dX11_act_31 ?_
    refine z_iconst (v := 0) cx (by decide +kernel) dX11_act_100 ?_
    obtain ⟨rfl, rfl⟩ := g_some h
    exact z_ireturn cx ce rfl ⟨rfl, rfl⟩ dX11_act_101
  · have h := g_f (Bool.eq_false_iff.mp c6) h
    refine z_iconst (v := 0) cx (by decide +kernel) dX11_act_13 ?_
    obtain ⟨rfl, rfl⟩ := g_some h
    exact z_ireturn cx ce rfl ⟨rfl, rfl⟩ dX11_act_14
theorem c_X11_act {g : z_G} (a0 : Int32) (a1 : Int32) (a2 : Int32) (S : z_Stt) {v : Int32} {S' : z_Stt} (h : f_X11_act a0 a1 a2 S = some (v, S')) : z_Ct g M_X11_act 257 [.ref (z_ad g 48), .int a0, .int a1, .int a2] (hp g S) (z_P g (some (.int v)) S') :=
  z_Ct.of (by decide +kernel) rfl (Nat.le_of_ble_eq_true rfl) (fun K cx ce => q_weak (L' := [some (.ref (z_ad g 48)), some (.int a0), some (.int a1), some (.int a2)]) (z_wk_s (z_wk_s (z_wk_s (z_wk_s (z_wk_0))))) (t_X11_act cx ce a0 a1 a2 S h))
abbrev M_X11_trace : z_M := (RX11, yX11_trace, cX11_trace, 2, some .int)
theorem mo_X11_trace : z_mo M_X11_trace 1 := ⟨tb_1133, tb_5, rfl, ⟨by decide +kernel, by decide +kernel⟩, by decide +kernel, by decide⟩
theorem mv_X11_trace : z_mv M_X11_trace := ⟨tb_1131, tb_1132⟩
def f_X11_trace (a0 : Int32) (S : z_Stt) : Option (Int32 × z_Stt) :=
  if a0 < 0 then
    some ((-1), S)
  else
    if S.1 4839 ≤ a0 then
      some ((-1), S)
    else
      if 24 ≤ a0 then
        some ((-1), S)
      else
        if ¬ (a0 < 0 ∨ 24 ≤ a0.toNatClampNeg) then
          some (S.2.2.1 65 a0.toNatClampNeg, S)
        else none
set_option maxHeartbeats 4000000 in
set_option maxRecDepth 100000 in
theorem t_X11_trace {g : z_G} {K : z_K} {v : Int32} {S' : z_Stt} (cx : z_C g M_X11_trace 0 K) (ce : z_E' g M_X11_trace (z_P g (some (.int v)) S') K) (a0 : Int32) (S : z_Stt) (h : f_X11_trace a0 S = some (v, S')) : z_At g M_X11_trace K 0 [some (.ref (z_ad g 48)), some (.int a0)] [] (hp g S) := by
  unfold f_X11_trace at h
  refine z_iload_n cx rfl rfl dX11_trace_0 ?_
  refine z_if_lt (tgt := 27) cx (by decide) dX11_trace_1 (fun c1 => ?_) (fun c1 => ?_)
  · have h := g_t c1 h
    refine z_iconst (v := (-1)) cx (by decide +kernel) dX11_trace_27 ?_
    obtain ⟨rfl, rfl⟩ := g_some h
    exact z_ireturn cx ce rfl ⟨rfl, rfl⟩ dX11_trace_28
  · have h := g_f c1 h
    refine z_iload_n cx rfl rfl dX11_trace_4 ?_
    refine z_aload_n cx rfl rfl dX11_trace_5 ?_
    refine q_getI (k := 48) (n := 4839) cx z_cl11 (j := 39) (by decide) tb_1098 rfl (by decide) rfl rfl rfl dX11_trace_6 ?_
    refine z_icmp_ge (tgt := 27) cx (by decide) dX11_trace_9 (fun c2 => ?_) (fun c2 => ?_)
    · have h := g_t c2 h
      refine z_iconst (v := (-1)) cx (by decide +kernel) dX11_trace_27 ?_
      obtain ⟨rfl, rfl⟩ := g_some h
      exact z_ireturn cx ce rfl ⟨rfl, rfl⟩ dX11_trace_28
    · have h := g_f c2 h
      refine z_iload_n cx rfl rfl dX11_trace_12 ?_
      refine z_bipush (v := 24) cx (by decide +kernel) dX11_trace_13 ?_
      refine z_icmp_ge (tgt := 27) cx (by decide) dX11_trace_15 (fun c3 => ?_) (fun c3 => ?_)
      · have h := g_t c3 h
        refine z_iconst (v := (-1)) cx (by decide +kernel) dX11_trace_27 ?_
        obtain ⟨rfl, rfl⟩ := g_some h
        exact z_ireturn cx ce rfl ⟨rfl, rfl⟩ dX11_trace_28
      · have h := g_f c3 h
        refine z_aload_n cx rfl rfl dX11_trace_18 ?_
        refine q_getF (k := 48) (n := 65) (r := 17) cx z_cl11 (j := 38) (by decide) tb_158 rfl (by decide) rfl rfl rfl dX11_trace_19 ?_
        refine z_iload_n cx rfl rfl dX11_trace_22 ?_
        obtain ⟨c4, h⟩ := g_if h
        refine q_iald cx (by decide) rfl c4 dX11_trace_23 ?_
        refine z_goto (tgt := 28) cx (by decide) dX11_trace_24 ?_
        obtain ⟨rfl, rfl⟩ := g_some h
        exact z_ireturn cx ce rfl ⟨rfl, rfl⟩ dX11_trace_28
theorem c_X11_trace {g : z_G} (a0 : Int32) (S : z_Stt) {v : Int32} {S' : z_Stt} (h : f_X11_trace a0 S = some (v, S')) : z_Ct g M_X11_trace 0 [.ref (z_ad g 48), .int a0] (hp g S) (z_P g (some (.int v)) S') :=
  z_Ct.of (by decide +kernel) rfl (Nat.le_of_ble_eq_true rfl) (fun K cx ce => q_weak (L' := [some (.ref (z_ad g 48)), some (.int a0)]) (z_wk_s (z_wk_s (z_wk_0))) (t_X11_trace cx ce a0 S h))
abbrev M_X11_keep : z_M := (RX11, yX11_keep, cX11_keep, 3, some .int)
theorem mo_X11_keep : z_mo M_X11_keep 2 := ⟨tb_1145, tb_5, rfl, ⟨by decide +kernel, by decide +kernel⟩, by decide +kernel, by decide⟩
theorem mv_X11_keep : z_mv M_X11_keep := ⟨tb_1143, tb_1144⟩
def f_X11_keep_22 (x1 : Int32) (x2 : Int32) (S : z_Stt) : Option (Int32 × z_Stt) :=
  if ¬ (x1 < 0 ∨ 6 ≤ x1.toNatClampNeg) then
    g_let (sA S 66 (upd (S.2.2.1 66) x1.toNatClampNeg x2)) fun S2 =>
    if ¬ (x1 < 0 ∨ 6 ≤ x1.toNatClampNeg) then
      g_let (sA S2 67 (upd (S2.2.2.1 67) x1.toNatClampNeg 0)) fun S5 =>
      some (1, S5)
    else none
  else none
set_option maxHeartbeats 4000000 in
set_option maxRecDepth 100000 in
theorem t_X11_keep_22 {g : z_G} {K : z_K} {v : Int32} {S' : z_Stt} (cx : z_C g M_X11_keep 2 K) (ce : z_E' g M_X11_keep (z_P g (some (.int v)) S') K) (x1 : Int32) (x2 : Int32) (S : z_Stt) (h : f_X11_keep_22 x1 x2 S = some (v, S')) : z_At g M_X11_keep K 22 [some (.ref (z_ad g 48)), some (.int x1), some (.int x2)] [] (hp g S) := by
  unfold f_X11_keep_22 at h
  refine z_aload_n cx rfl rfl dX11_keep_22 ?_
  refine q_getF (k := 48) (n := 66) (r := 18) cx z_cl11 (j := 42) (by decide) tb_159 rfl (by decide) rfl rfl rfl dX11_keep_23 ?_
  refine z_iload_n cx rfl rfl dX11_keep_26 ?_
  refine z_iload_n cx rfl rfl dX11_keep_27 ?_
  obtain ⟨c1, h⟩ := g_if h
  refine q_iast cx (by decide) rfl c1 dX11_keep_28 ?_
  obtain ⟨S2, e3, h⟩ := g_let_ex h
  rw [← e3]
  refine z_aload_n cx rfl rfl dX11_keep_29 ?_
  refine q_getF (k := 48) (n := 67) (r := 19) cx z_cl11 (j := 43) (by decide) tb_160 rfl (by decide) rfl rfl rfl dX11_keep_30 ?_
  refine z_iload_n cx rfl rfl dX11_keep_33 ?_
  refine z_iconst (v := 0) cx (by decide +kernel) dX11_keep_34 ?_
  obtain ⟨c4, h⟩ := g_if h
  refine q_iast cx (by decide) rfl c4 dX11_keep_35 ?_
  obtain ⟨S5, e6, h⟩ := g_let_ex h
  rw [← e6]
  refine z_iconst (v := 1) cx (by decide +kernel) dX11_keep_36 ?_
  obtain ⟨rfl, rfl⟩ := g_some h
  exact z_ireturn cx ce rfl ⟨rfl, rfl⟩ dX11_keep_37
def f_X11_keep (a0 : Int32) (a1 : Int32) (S : z_Stt) : Option (Int32 × z_Stt) :=
  g_bd (f_X11_isShelf a0 S) fun v1 S2 =>
  if v1 = true then
    if a1 = (-1) then
      f_X11_keep_22 a0 a1 S2
    else
      g_bd (f_X11_isBody a1 S2) fun v6 S7 =>
      if v6 = true then
        f_X11_keep_22 a0 a1 S7
      else
        some ((-1), S7)
  else
    some ((-1), S2)
set_option maxHeartbeats 4000000 in
set_option maxRecDepth 100000 in
theorem t_X11_keep {g : z_G} {K : z_K} {v : Int32} {S' : z_Stt} (cx : z_C g M_X11_keep 2 K) (ce : z_E' g M_X11_keep (z_P g (some (.int v)) S') K) (a0 : Int32) (a1 : Int32) (S : z_Stt) (h : f_X11_keep a0 a1 S = some (v, S')) : z_At g M_X11_keep K 0 [some (.ref (z_ad g 48)), some (.int a0), some (.int a1)] [] (hp g S) := by
  unfold f_X11_keep at h
  refine z_iload_n cx rfl rfl dX11_keep_0 ?_
  obtain ⟨v1, S2, e3, h⟩ := g_bd_ex h
  refine q_csi (As := [.int a0]) cx mo_X11_isShelf ms_X11_isShelf tb_222 (by decide) rfl rfl (Nat.le_of_ble_eq_true rfl) dX11_keep_1 (c_X11_isShelf a0 _ e3) ?_
  refine q_ifb_eq (tgt := 20) cx (by decide) dX11_keep_4 (fun c4 => ?_) (fun c4 => ?_)
  · have h := g_f (Bool.eq_false_iff.mp c4) h
    refine z_iconst (v := (-1)) cx (by decide +kernel) dX11_keep_20 ?_
    obtain ⟨rfl, rfl⟩ := g_some h
    exact z_ireturn cx ce rfl ⟨rfl, rfl⟩ dX11_keep_21
  · have h := g_t c4 h
    refine z_iload_n cx rfl rfl dX11_keep_7 ?_
    refine z_iconst (v := (-1)) cx (by decide +kernel) dX11_keep_8 ?_
    refine z_icmp_eq (tgt := 22) cx (by decide) dX11_keep_9 (fun c5 => ?_) (fun c5 => ?_)
    · have h := g_t c5 h
      exact q_weak (z_wk_s (z_wk_s (z_wk_s (z_wk_0)))) (t_X11_keep_22 cx ce a0 a1 S2 h)
    · have h := g_f c5 h
      refine z_aload_n cx rfl rfl dX11_keep_12 ?_
      refine z_iload_n cx rfl rfl dX11_keep_13 ?_
      obtain ⟨v6, S7, e8, h⟩ := g_bd_ex h
      refine q_cvi (As := [.int a1]) cx mo_X11_isBody mv_X11_isBody z_cl11 rfl tb_1101 (by decide) rfl (by decide) rfl rfl (Nat.le_of_ble_eq_true rfl) dX11_keep_14 (c_X11_isBody a1 _ e8) ?_
      refine q_ifb_ne (tgt := 22) cx (by decide) dX11_keep_17 (fun c9 => ?_) (fun c9 => ?_)
      · have h := g_t c9 h
        exact q_weak (z_wk_s (z_wk_s (z_wk_s (z_wk_0)))) (t_X11_keep_22 cx ce a0 a1 S7 h)
      · have h := g_f (Bool.eq_false_iff.mp c9) h
        refine z_iconst (v := (-1)) cx (by decide +kernel) dX11_keep_20 ?_
        obtain ⟨rfl, rfl⟩ := g_some h
        exact z_ireturn cx ce rfl ⟨rfl, rfl⟩ dX11_keep_21
theorem c_X11_keep {g : z_G} (a0 : Int32) (a1 : Int32) (S : z_Stt) {v : Int32} {S' : z_Stt} (h : f_X11_keep a0 a1 S = some (v, S')) : z_Ct g M_X11_keep 2 [.ref (z_ad g 48), .int a0, .int a1] (hp g S) (z_P g (some (.int v)) S') :=
  z_Ct.of (by decide +kernel) rfl (Nat.le_of_ble_eq_true rfl) (fun K cx ce => q_weak (L' := [some (.ref (z_ad g 48)), some (.int a0), some (.int a1)]) (z_wk_s (z_wk_s (z_wk_s (z_wk_0)))) (t_X11_keep cx ce a0 a1 S h))
abbrev M_X11_row : z_M := (RX11, yX11_row, cX11_row, 5, some .int)
theorem mo_X11_row : z_mo M_X11_row 3 := ⟨tb_1157, tb_5, rfl, ⟨by decide +kernel, by decide +kernel⟩, by decide +kernel, by decide⟩
theorem mv_X11_row : z_mv M_X11_row := ⟨tb_1155, tb_1156⟩
def f_X11_row_57 (n : Nat) : Nat → Int32 → Int32 → z_Stt → Option (Int32 × z_Stt)
  | 0, _, _, _ => none
  | m + 1, x1, x4, S =>
    if (60 * x1) + 60 ≤ x4 then
      some (1, S)
    else
      if ¬ (x4 < 0 ∨ 360 ≤ x4.toNatClampNeg) then
        g_let (sE S 68 (vp_updL (S.2.2.2.1 68) x4.toNatClampNeg 0)) fun S3 =>
        f_X11_row_57 n m x1 (x4 + 1) S3
      else none
set_option maxHeartbeats 4000000 in
set_option maxRecDepth 100000 in
theorem t_X11_row_57 {g : z_G} {K : z_K} (n : Nat) {v : Int32} {S' : z_Stt} (cx : z_C g M_X11_row 2 K) (ce : z_E' g M_X11_row (z_P g (some (.int v)) S') K) : ∀ (m : Nat) (x1 : Int32) (x4 : Int32) (S : z_Stt) (h : f_X11_row_57 n m x1 x4 S = some (v, S')), z_At g M_X11_row K 57 [some (.ref (z_ad g 48)), some (.int x1), none, none, some (.int x4)] [] (hp g S) := by
  intro m
  induction m with
  | zero => intro x1 x4 S h; simp [f_X11_row_57] at h
  | succ m ih =>
    intro x1 x4 S h
    rw [f_X11_row_57] at h
    refine z_iload cx rfl dX11_row_57 ?_
    refine z_bipush (v := 60) cx (by decide +kernel) dX11_row_59 ?_
    refine z_iload_n cx rfl rfl dX11_row_61 ?_
    refine z_imul cx dX11_row_62 ?_
    refine z_bipush (v := 60) cx (by decide +kernel) dX11_row_63 ?_
    refine z_iadd cx dX11_row_65 ?_
    refine z_icmp_ge (tgt := 83) cx (by decide) dX11_row_66 (fun c1 => ?_) (fun c1 => ?_)
    · have h := g_t c1 h
      refine z_iconst (v := 1) cx (by decide +kernel) dX11_row_83 ?_
      obtain ⟨rfl, rfl⟩ := g_some h
      exact z_ireturn cx ce rfl ⟨rfl, rfl⟩ dX11_row_84
    · have h := g_f c1 h
      refine z_aload_n cx rfl rfl dX11_row_69 ?_
      refine q_getF (k := 48) (n := 68) (r := 20) cx z_cl11 (j := 44) (by decide) tb_161 rfl (by decide) rfl rfl rfl dX11_row_70 ?_
      refine z_iload cx rfl dX11_row_73 ?_
      refine z_lconst (v := 0) cx (by decide +kernel) dX11_row_75 ?_
      obtain ⟨c2, h⟩ := g_if h
      refine q_last cx (by decide) rfl c2 dX11_row_76 ?_
      obtain ⟨S3, e4, h⟩ := g_let_ex h
      rw [← e4]
      refine z_iinc (c := 1) (L' := [some (.ref (z_ad g 48)), some (.int x1), none, none, some (.int (x4 + 1))]) cx rfl (by decide +kernel) (by decide) rfl dX11_row_77 ?_
      refine z_goto (tgt := 57) cx (by decide) dX11_row_80 ?_
      exact q_weak (z_wk_s (z_wk_s (z_wk_n (z_wk_n (z_wk_s (z_wk_0)))))) (ih x1 (x4 + 1) S3 h)
def f_X11_row (n : Nat) (a0 : Int32) (a1 : Int32) (a2 : Int32) (S : z_Stt) : Option (Int32 × z_Stt) :=
  g_bd (f_X11_isShelf a0 S) fun v1 S2 =>
  if v1 = true then
    g_bd (f_X11_within (Int32.toInt64 a1) 0 4 S2) fun v5 S6 =>
    if v5 = true then
      if a2 ≤ 60 then
        if 0 ≤ a2 then
          if ¬ (a0 < 0 ∨ 6 ≤ a0.toNatClampNeg) then
            g_let (sA S6 66 (upd (S6.2.2.1 66) a0.toNatClampNeg (50 + a1))) fun S12 =>
            if ¬ (a0 < 0 ∨ 6 ≤ a0.toNatClampNeg) then
              g_let (sA S12 67 (upd (S12.2.2.1 67) a0.toNatClampNeg a2)) fun S15 =>
              f_X11_row_57 n n a0 (60 * a0) S15
            else none
          else none
        else
          some ((-14), S6)
      else
        some ((-1), S6)
    else
      some ((-1), S6)
  else
    some ((-1), S2)
set_option maxHeartbeats 4000000 in
set_option maxRecDepth 100000 in
theorem t_X11_row {g : z_G} {K : z_K} (n : Nat) {v : Int32} {S' : z_Stt} (cx : z_C g M_X11_row 2 K) (ce : z_E' g M_X11_row (z_P g (some (.int v)) S') K) (a0 : Int32) (a1 : Int32) (a2 : Int32) (S : z_Stt) (h : f_X11_row n a0 a1 a2 S = some (v, S')) : z_At g M_X11_row K 0 [some (.ref (z_ad g 48)), some (.int a0), some (.int a1), some (.int a2), none] [] (hp g S) := by
  unfold f_X11_row at h
  refine z_iload_n cx rfl rfl dX11_row_0 ?_
  obtain ⟨v1, S2, e3, h⟩ := g_bd_ex h
  refine q_csi (As := [.int a0]) cx mo_X11_isShelf ms_X11_isShelf tb_222 (by decide) rfl rfl (Nat.le_of_ble_eq_true rfl) dX11_row_1 (c_X11_isShelf a0 _ e3) ?_
  refine q_ifb_eq (tgt := 25) cx (by decide) dX11_row_4 (fun c4 => ?_) (fun c4 => ?_)
  · have h := g_f (Bool.eq_false_iff.mp c4) h
    refine z_iconst (v := (-1)) cx (by decide +kernel) dX11_row_25 ?_
    obtain ⟨rfl, rfl⟩ := g_some h
    exact z_ireturn cx ce rfl ⟨rfl, rfl⟩ dX11_row_26
  · have h := g_t c4 h
    refine z_iload_n cx rfl rfl dX11_row_7 ?_
    refine z_i2l cx dX11_row_8 ?_
    refine z_lconst (v := 0) cx (by decide +kernel) dX11_row_9 ?_
    refine z_ldc2 cx tb_922 dX11_row_10 ?_
    obtain ⟨v5, S6, e7, h⟩ := g_bd_ex h
    refine q_csi (As := [.long (Int32.toInt64 a1), .long 0, .long 4]) cx mo_X11_within ms_X11_within tb_185 (by decide) rfl rfl (Nat.le_of_ble_eq_true rfl) dX11_row_13 (c_X11_within (Int32.toInt64 a1) 0 4 _ e7) ?_
    refine q_ifb_eq (tgt := 25) cx (by decide) dX11_row_16 (fun c8 => ?_) (fun c8 => ?_)
    · have h := g_f (Bool.eq_false_iff.mp c8) h
      refine z_iconst (v := (-1)) cx (by decide +kernel) dX11_row_25 ?_
      obtain ⟨rfl, rfl⟩ := g_some h
      exact z_ireturn cx ce rfl ⟨rfl, rfl⟩ dX11_row_26
    · have h := g_t c8 h
      refine z_iload_n cx rfl rfl dX11_row_19 ?_
      refine z_bipush (v := 60) cx (by decide +kernel) dX11_row_20 ?_
      refine z_icmp_le (tgt := 27) cx (by decide) dX11_row_22 (fun c9 => ?_) (fun c9 => ?_)
      · have h := g_t c9 h
        refine z_iload_n cx rfl rfl dX11_row_27 ?_
        refine z_if_ge (tgt := 34) cx (by decide) dX11_row_28 (fun c10 => ?_) (fun c10 => ?_)
        · have h := g_t c10 h
          refine z_aload_n cx rfl rfl dX11_row_34 ?_
          refine q_getF (k := 48) (n := 66) (r := 18) cx z_cl11 (j := 42) (by decide) tb_159 rfl (by decide) rfl rfl rfl dX11_row_35 ?_
          refine z_iload_n cx rfl rfl dX11_row_38 ?_
          refine z_bipush (v := 50) cx (by decide +kernel) dX11_row_39 ?_
          refine z_iload_n cx rfl rfl dX11_row_41 ?_
          refine z_iadd cx dX11_row_42 ?_
          obtain ⟨c11, h⟩ := g_if h
          refine q_iast cx (by decide) rfl c11 dX11_row_43 ?_
          obtain ⟨S12, e13, h⟩ := g_let_ex h
          rw [← e13]
          refine z_aload_n cx rfl rfl dX11_row_44 ?_
          refine q_getF (k := 48) (n := 67) (r := 19) cx z_cl11 (j := 43) (by decide) tb_160 rfl (by decide) rfl rfl rfl dX11_row_45 ?_
          refine z_iload_n cx rfl rfl dX11_row_48 ?_
          refine z_iload_n cx rfl rfl dX11_row_49 ?_
          obtain ⟨c14, h⟩ := g_if h
          refine q_iast cx (by decide) rfl c14 dX11_row_50 ?_
          obtain ⟨S15, e16, h⟩ := g_let_ex h
          rw [← e16]
          refine z_bipush (v := 60) cx (by decide +kernel) dX11_row_51 ?_
          refine z_iload_n cx rfl rfl dX11_row_53 ?_
          refine z_imul cx dX11_row_54 ?_
          refine z_istore (L' := [some (.ref (z_ad g 48)), some (.int a0), some (.int a1), some (.int a2), some (.int (60 * a0))]) cx (by decide) rfl dX11_row_55 ?_
          exact q_weak (z_wk_s (z_wk_s (z_wk_n (z_wk_n (z_wk_s (z_wk_0)))))) (t_X11_row_57 n cx ce n a0 (60 * a0) S15 h)
        · have h := g_f c10 h
          refine z_bipush (v := (-14)) cx (by decide +kernel) dX11_row_31 ?_
          obtain ⟨rfl, rfl⟩ := g_some h
          exact z_ireturn cx ce rfl ⟨rfl, rfl⟩ dX11_row_33
      · have h := g_f c9 h
        refine z_iconst (v := (-1)) cx (by decide +kernel) dX11_row_25 ?_
        obtain ⟨rfl, rfl⟩ := g_some h
        exact z_ireturn cx ce rfl ⟨rfl, rfl⟩ dX11_row_26
theorem c_X11_row {g : z_G} {n : Nat} (a0 : Int32) (a1 : Int32) (a2 : Int32) (S : z_Stt) {v : Int32} {S' : z_Stt} (h : f_X11_row n a0 a1 a2 S = some (v, S')) : z_Ct g M_X11_row 2 [.ref (z_ad g 48), .int a0, .int a1, .int a2] (hp g S) (z_P g (some (.int v)) S') :=
  z_Ct.of (by decide +kernel) rfl (Nat.le_of_ble_eq_true rfl) (fun K cx ce => q_weak (L' := [some (.ref (z_ad g 48)), some (.int a0), some (.int a1), some (.int a2), none]) (z_wk_s (z_wk_s (z_wk_s (z_wk_s (z_wk_e (z_wk_0)))))) (t_X11_row n cx ce a0 a1 a2 S h))
abbrev M_X11_refusal : z_M := (RX11, yX11_refusal, cX11_refusal, 3, some .int)
theorem mo_X11_refusal : z_mo M_X11_refusal 2 := ⟨tb_1185, tb_5, rfl, ⟨by decide +kernel, by decide +kernel⟩, by decide +kernel, by decide⟩
theorem mv_X11_refusal : z_mv M_X11_refusal := ⟨tb_1183, tb_1184⟩
def f_X11_refusal (a0 : Int32) (a1 : Int32) (S : z_Stt) : Option (Int32 × z_Stt) :=
  g_bd (f_X11_isShelf a0 S) fun v1 S2 =>
  if v1 = true then
    if ¬ (a0 < 0 ∨ 6 ≤ a0.toNatClampNeg) then
      if 0 ≤ S2.2.2.1 66 a0.toNatClampNeg then
        if ¬ (a0 < 0 ∨ 6 ≤ a0.toNatClampNeg) then
          if 50 ≤ S2.2.2.1 66 a0.toNatClampNeg then
            if a1 < 0 then
              some ((-13), S2)
            else
              if ¬ (a0 < 0 ∨ 6 ≤ a0.toNatClampNeg) then
                if S2.2.2.1 67 a0.toNatClampNeg ≤ a1 then
                  some ((-13), S2)
                else
                  some (0, S2)
              else none
          else
            some ((-12), S2)
        else none
      else
        some ((-11), S2)
    else none
  else
    some ((-1), S2)
set_option maxHeartbeats 4000000 in
set_option maxRecDepth 100000 in
theorem t_X11_refusal {g : z_G} {K : z_K} {v : Int32} {S' : z_Stt} (cx : z_C g M_X11_refusal 2 K) (ce : z_E' g M_X11_refusal (z_P g (some (.int v)) S') K) (a0 : Int32) (a1 : Int32) (S : z_Stt) (h : f_X11_refusal a0 a1 S = some (v, S')) : z_At g M_X11_refusal K 0 [some (.ref (z_ad g 48)), some (.int a0), some (.int a1)] [] (hp g S) := by
  unfold f_X11_refusal at h
  refine z_iload_n cx rfl rfl dX11_refusal_0 ?_
  obtain ⟨v1, S2, e3, h⟩ := g_bd_ex h
  refine q_csi (As := [.int a0]) cx mo_X11_isShelf ms_X11_isShelf tb_222 (by decide) rfl rfl (Nat.le_of_ble_eq_true rfl) dX11_refusal_1 (c_X11_isShelf a0 _ e3) ?_
  refine q_ifb_ne (tgt := 9) cx (by decide) dX11_refusal_4 (fun c4 => ?_) (fun c4 => ?_)
  · have h := g_t c4 h
    refine z_aload_n cx rfl rfl dX11_refusal_9 ?_
    refine q_getF (k := 48) (n := 66) (r := 18) cx z_cl11 (j := 42) (by decide) tb_159 rfl (by decide) rfl rfl rfl dX11_refusal_10 ?_
    refine z_iload_n cx rfl rfl dX11_refusal_13 ?_
    obtain ⟨c5, h⟩ := g_if h
    refine q_iald cx (by decide) rfl c5 dX11_refusal_14 ?_
    refine z_if_ge (tgt := 21) cx (by decide) dX11_refusal_15 (fun c6 => ?_) (fun c6 => ?_)
    · have h := g_t c6 h
      refine z_aload_n cx rfl rfl dX11_refusal_21 ?_
      refine q_getF (k := 48) (n := 66) (r := 18) cx z_cl11 (j := 42) (by decide) tb_159 rfl (by decide) rfl rfl rfl dX11_refusal_22 ?_
      refine z_iload_n cx rfl rfl dX11_refusal_25 ?_
      obtain ⟨c7, h⟩ := g_if h
      refine q_iald cx (by decide) rfl c7 dX11_refusal_26 ?_
      refine z_bipush (v := 50) cx (by decide +kernel) dX11_refusal_27 ?_
      refine z_icmp_ge (tgt := 35) cx (by decide) dX11_refusal_29 (fun c8 => ?_) (fun c8 => ?_)
      · have h := g_t c8 h
        refine z_iload_n cx rfl rfl dX11_refusal_35 ?_
        refine z_if_lt (tgt := 53) cx (by decide) dX11_refusal_36 (fun c9 => ?_) (fun c9 => ?_)
        · have h := g_t c9 h
          refine z_bipush (v := (-13)) cx (by decide +kernel) dX11_refusal_53 ?_
          obtain ⟨rfl, rfl⟩ := g_some h
          exact z_ireturn cx ce rfl ⟨rfl, rfl⟩ dX11_refusal_55
        · have h := g_f c9 h
          refine z_iload_n cx rfl rfl dX11_refusal_39 ?_
          refine z_aload_n cx rfl rfl dX11_refusal_40 ?_
          refine q_getF (k := 48) (n := 67) (r := 19) cx z_cl11 (j := 43) (by decide) tb_160 rfl (by decide) rfl rfl rfl dX11_refusal_41 ?_
          refine z_iload_n cx rfl rfl dX11_refusal_44 ?_
          obtain ⟨c10, h⟩ := g_if h
          refine q_iald cx (by decide) rfl c10 dX11_refusal_45 ?_
          refine z_icmp_ge (tgt := 53) cx (by decide) dX11_refusal_46 (fun c11 => ?_) (fun c11 => ?_)
          · have h := g_t c11 h
            refine z_bipush (v := (-13)) cx (by decide +kernel) dX11_refusal_53 ?_
            obtain ⟨rfl, rfl⟩ := g_some h
            exact z_ireturn cx ce rfl ⟨rfl, rfl⟩ dX11_refusal_55
          · have h := g_f c11 h
            refine z_iconst (v := 0) cx (by decide +kernel) dX11_refusal_49 ?_
            refine z_goto (tgt := 55) cx (by decide) dX11_refusal_50 ?_
            obtain ⟨rfl, rfl⟩ := g_some h
            exact z_ireturn cx ce rfl ⟨rfl, rfl⟩ dX11_refusal_55
      · have h := g_f c8 h
        refine z_bipush (v := (-12)) cx (by decide +kernel) dX11_refusal_32 ?_
        obtain ⟨rfl, rfl⟩ := g_some h
        exact z_ireturn cx ce rfl ⟨rfl, rfl⟩ dX11_refusal_34
    · have h := g_f c6 h
      refine z_bipush (v := (-11)) cx (by decide +kernel) dX11_refusal_18 ?_
      obtain ⟨rfl, rfl⟩ := g_some h
      exact z_ireturn cx ce rfl ⟨rfl, rfl⟩ dX11_refusal_20
  · have h := g_f (Bool.eq_false_iff.mp c4) h
    refine z_iconst (v := (-1)) cx (by decide +kernel) dX11_refusal_7 ?_
    obtain ⟨rfl, rfl⟩ := g_some h
    exact z_ireturn cx ce rfl ⟨rfl, rfl⟩ dX11_refusal_8
theorem c_X11_refusal {g : z_G} (a0 : Int32) (a1 : Int32) (S : z_Stt) {v : Int32} {S' : z_Stt} (h : f_X11_refusal a0 a1 S = some (v, S')) : z_Ct g M_X11_refusal 2 [.ref (z_ad g 48), .int a0, .int a1] (hp g S) (z_P g (some (.int v)) S') :=
  z_Ct.of (by decide +kernel) rfl (Nat.le_of_ble_eq_true rfl) (fun K cx ce => q_weak (L' := [some (.ref (z_ad g 48)), some (.int a0), some (.int a1)]) (z_wk_s (z_wk_s (z_wk_s (z_wk_0)))) (t_X11_refusal cx ce a0 a1 S h))
abbrev M_X11_asSort : z_M := (RX11, yX11_asSort, cX11_asSort, 3, some .long)
theorem mo_X11_asSort : z_mo M_X11_asSort 2 := ⟨tb_1188, tb_5, rfl, ⟨by decide +kernel, by decide +kernel⟩, by decide +kernel, by decide⟩
theorem ms_X11_asSort : z_ms M_X11_asSort := tb_1187
def f_X11_asSort (a0 : Int32) (a1 : Int64) (S : z_Stt) : Option (Int64 × z_Stt) :=
  if a0 = 0 then
    some (Int32.toInt64 (Int8.toInt32 (Int32.toInt8 (Int64.toInt32 a1))), S)
  else
    if a0 = 1 then
      some (Int32.toInt64 (Int16.toInt32 (Int32.toInt16 (Int64.toInt32 a1))), S)
    else
      if a0 = 2 then
        some (Int32.toInt64 (Int64.toInt32 a1), S)
      else
        if a0 = 4 then
          if lg_cmp a1 0 = 0 then
            some (0, S)
          else
            some (1, S)
        else
          some (a1, S)
set_option maxHeartbeats 4000000 in
set_option maxRecDepth 100000 in
theorem t_X11_asSort {g : z_G} {K : z_K} {v : Int64} {S' : z_Stt} (cx : z_C g M_X11_asSort 0 K) (ce : z_E' g M_X11_asSort (z_P g (some (.long v)) S') K) (a0 : Int32) (a1 : Int64) (S : z_Stt) (h : f_X11_asSort a0 a1 S = some (v, S')) : z_At g M_X11_asSort K 0 [some (.int a0), some (.long a1), none] [] (hp g S) := by
  unfold f_X11_asSort at h
  refine z_iload_n cx rfl rfl dX11_asSort_0 ?_
  refine z_if_ne (tgt := 11) cx (by decide) dX11_asSort_1 (fun c1 => ?_) (fun c1 => ?_)
  · have h := g_f c1 h
    refine z_iload_n cx rfl rfl dX11_asSort_11 ?_
    refine z_iconst (v := 1) cx (by decide +kernel) dX11_asSort_12 ?_
    refine z_icmp_ne (tgt := 23) cx (by decide) dX11_asSort_13 (fun c2 => ?_) (fun c2 => ?_)
    · have h := g_f c2 h
      refine z_iload_n cx rfl rfl dX11_asSort_23 ?_
      refine z_iconst (v := 2) cx (by decide +kernel) dX11_asSort_24 ?_
      refine z_icmp_ne (tgt := 34) cx (by decide) dX11_asSort_25 (fun c3 => ?_) (fun c3 => ?_)
      · have h := g_f c3 h
        refine z_iload_n cx rfl rfl dX11_asSort_34 ?_
        refine z_iconst (v := 4) cx (by decide +kernel) dX11_asSort_35 ?_
        refine z_icmp_ne (tgt := 53) cx (by decide) dX11_asSort_36 (fun c4 => ?_) (fun c4 => ?_)
        · have h := g_f c4 h
          refine z_lload_n cx rfl rfl dX11_asSort_53 ?_
          obtain ⟨rfl, rfl⟩ := g_some h
          exact z_lreturn cx ce rfl ⟨rfl, rfl⟩ dX11_asSort_54
        · have h := g_t c4 h
          refine z_lload_n cx rfl rfl dX11_asSort_39 ?_
          refine z_lconst (v := 0) cx (by decide +kernel) dX11_asSort_40 ?_
          refine z_lcmp cx dX11_asSort_41 ?_
          refine z_if_eq (tgt := 49) cx (by decide) dX11_asSort_42 (fun c5 => ?_) (fun c5 => ?_)
          · have h := g_t c5 h
            refine z_lconst (v := 0) cx (by decide +kernel) dX11_asSort_49 ?_
            refine z_goto (tgt := 54) cx (by decide) dX11_asSort_50 ?_
            obtain ⟨rfl, rfl⟩ := g_some h
            exact z_lreturn cx ce rfl ⟨rfl, rfl⟩ dX11_asSort_54
          · have h := g_f c5 h
            refine z_lconst (v := 1) cx (by decide +kernel) dX11_asSort_45 ?_
            refine z_goto (tgt := 54) cx (by decide) dX11_asSort_46 ?_
            obtain ⟨rfl, rfl⟩ := g_some h
            exact z_lreturn cx ce rfl ⟨rfl, rfl⟩ dX11_asSort_54
      · have h := g_t c3 h
        refine z_lload_n cx rfl rfl dX11_asSort_28 ?_
        refine z_l2i cx dX11_asSort_29 ?_
        refine z_i2l cx dX11_asSort_30 ?_
        refine z_goto (tgt := 54) cx (by decide) dX11_asSort_31 ?_
        obtain ⟨rfl, rfl⟩ := g_some h
        exact z_lreturn cx ce rfl ⟨rfl, rfl⟩ dX11_asSort_54
    · have h := g_t c2 h
      refine z_lload_n cx rfl rfl dX11_asSort_16 ?_
      refine z_l2i cx dX11_asSort_17 ?_
      refine z_i2s cx dX11_asSort_18 ?_
      refine z_i2l cx dX11_asSort_19 ?_
      refine z_goto (tgt := 54) cx (by decide) dX11_asSort_20 ?_
      obtain ⟨rfl, rfl⟩ := g_some h
      exact z_lreturn cx ce rfl ⟨rfl, rfl⟩ dX11_asSort_54
  · have h := g_t c1 h
    refine z_lload_n cx rfl rfl dX11_asSort_4 ?_
    refine z_l2i cx dX11_asSort_5 ?_
    refine z_i2b cx dX11_asSort_6 ?_
    refine z_i2l cx dX11_asSort_7 ?_
    refine z_goto (tgt := 54) cx (by decide) dX11_asSort_8 ?_
    obtain ⟨rfl, rfl⟩ := g_some h
    exact z_lreturn cx ce rfl ⟨rfl, rfl⟩ dX11_asSort_54
theorem c_X11_asSort {g : z_G} (a0 : Int32) (a1 : Int64) (S : z_Stt) {v : Int64} {S' : z_Stt} (h : f_X11_asSort a0 a1 S = some (v, S')) : z_Ct g M_X11_asSort 0 [.int a0, .long a1] (hp g S) (z_P g (some (.long v)) S') :=
  z_Ct.of (by decide +kernel) rfl (Nat.le_of_ble_eq_true rfl) (fun K cx ce => q_weak (L' := [some (.int a0), some (.long a1), none]) (z_wk_s (z_wk_s (z_wk_n (z_wk_0)))) (t_X11_asSort cx ce a0 a1 S h))
abbrev M_X11_put : z_M := (RX11, yX11_put, cX11_put, 6, some .int)
theorem mo_X11_put : z_mo M_X11_put 3 := ⟨tb_1181, tb_5, rfl, ⟨by decide +kernel, by decide +kernel⟩, by decide +kernel, by decide⟩
theorem mv_X11_put : z_mv M_X11_put := ⟨tb_1179, tb_1180⟩
def f_X11_put_37 (x5 : Int32) (S : z_Stt) : Option (Int32 × z_Stt) :=
  if x5 = 0 then
    some (1, S)
  else
    some (x5, S)
set_option maxHeartbeats 4000000 in
set_option maxRecDepth 100000 in
theorem t_X11_put_37 {g : z_G} {K : z_K} {v : Int32} {S' : z_Stt} (cx : z_C g M_X11_put 3 K) (ce : z_E' g M_X11_put (z_P g (some (.int v)) S') K) (x5 : Int32) (S : z_Stt) (h : f_X11_put_37 x5 S = some (v, S')) : z_At g M_X11_put K 37 [none, none, none, none, none, some (.int x5)] [] (hp g S) := by
  unfold f_X11_put_37 at h
  refine z_iload cx rfl dX11_put_37 ?_
  refine z_if_ne (tgt := 46) cx (by decide) dX11_put_39 (fun c1 => ?_) (fun c1 => ?_)
  · have h := g_f c1 h
    refine z_iload cx rfl dX11_put_46 ?_
    obtain ⟨rfl, rfl⟩ := g_some h
    exact z_ireturn cx ce rfl ⟨rfl, rfl⟩ dX11_put_48
  · have h := g_t c1 h
    refine z_iconst (v := 1) cx (by decide +kernel) dX11_put_42 ?_
    refine z_goto (tgt := 48) cx (by decide) dX11_put_43 ?_
    obtain ⟨rfl, rfl⟩ := g_some h
    exact z_ireturn cx ce rfl ⟨rfl, rfl⟩ dX11_put_48
def f_X11_put (a0 : Int32) (a1 : Int32) (a2 : Int64) (S : z_Stt) : Option (Int32 × z_Stt) :=
  g_bd (f_X11_refusal a0 a1 S) fun v1 S2 =>
  if v1 = 0 then
    if ¬ (a0 < 0 ∨ 6 ≤ a0.toNatClampNeg) then
      g_bd (f_X11_asSort ((S2.2.2.1 66 a0.toNatClampNeg) - 50) a2 S2) fun v6 S7 =>
      if ¬ ((60 * a0) + a1 < 0 ∨ 360 ≤ ((60 * a0) + a1).toNatClampNeg) then
        g_let (sE S7 68 (vp_updL (S7.2.2.2.1 68) ((60 * a0) + a1).toNatClampNeg v6)) fun S10 =>
        f_X11_put_37 v1 S10
      else none
    else none
  else
    f_X11_put_37 v1 S2
set_option maxHeartbeats 4000000 in
set_option maxRecDepth 100000 in
theorem t_X11_put {g : z_G} {K : z_K} {v : Int32} {S' : z_Stt} (cx : z_C g M_X11_put 3 K) (ce : z_E' g M_X11_put (z_P g (some (.int v)) S') K) (a0 : Int32) (a1 : Int32) (a2 : Int64) (S : z_Stt) (h : f_X11_put a0 a1 a2 S = some (v, S')) : z_At g M_X11_put K 0 [some (.ref (z_ad g 48)), some (.int a0), some (.int a1), some (.long a2), none, none] [] (hp g S) := by
  unfold f_X11_put at h
  refine z_aload_n cx rfl rfl dX11_put_0 ?_
  refine z_iload_n cx rfl rfl dX11_put_1 ?_
  refine z_iload_n cx rfl rfl dX11_put_2 ?_
  obtain ⟨v1, S2, e3, h⟩ := g_bd_ex h
  refine q_cvi (As := [.int a0, .int a1]) cx mo_X11_refusal mv_X11_refusal z_cl11 rfl tb_1182 (by decide) rfl (by decide) rfl rfl (Nat.le_of_ble_eq_true rfl) dX11_put_3 (c_X11_refusal a0 a1 _ e3) ?_
  refine z_istore (L' := [some (.ref (z_ad g 48)), some (.int a0), some (.int a1), some (.long a2), none, some (.int v1)]) cx (by decide) rfl dX11_put_6 ?_
  refine z_iload cx rfl dX11_put_8 ?_
  refine z_if_ne (tgt := 37) cx (by decide) dX11_put_10 (fun c4 => ?_) (fun c4 => ?_)
  · have h := g_f c4 h
    exact q_weak (z_wk_n (z_wk_n (z_wk_n (z_wk_n (z_wk_n (z_wk_s (z_wk_0))))))) (t_X11_put_37 cx ce v1 S2 h)
  · have h := g_t c4 h
    refine z_aload_n cx rfl rfl dX11_put_13 ?_
    refine q_getF (k := 48) (n := 68) (r := 20) cx z_cl11 (j := 44) (by decide) tb_161 rfl (by decide) rfl rfl rfl dX11_put_14 ?_
    refine z_bipush (v := 60) cx (by decide +kernel) dX11_put_17 ?_
    refine z_iload_n cx rfl rfl dX11_put_19 ?_
    refine z_imul cx dX11_put_20 ?_
    refine z_iload_n cx rfl rfl dX11_put_21 ?_
    refine z_iadd cx dX11_put_22 ?_
    refine z_aload_n cx rfl rfl dX11_put_23 ?_
    refine q_getF (k := 48) (n := 66) (r := 18) cx z_cl11 (j := 42) (by decide) tb_159 rfl (by decide) rfl rfl rfl dX11_put_24 ?_
    refine z_iload_n cx rfl rfl dX11_put_27 ?_
    obtain ⟨c5, h⟩ := g_if h
    refine q_iald cx (by decide) rfl c5 dX11_put_28 ?_
    refine z_bipush (v := 50) cx (by decide +kernel) dX11_put_29 ?_
    refine z_isub cx dX11_put_31 ?_
    refine z_lload_n cx rfl rfl dX11_put_32 ?_
    obtain ⟨v6, S7, e8, h⟩ := g_bd_ex h
    refine q_csl (As := [.int ((S2.2.2.1 66 a0.toNatClampNeg) - 50), .long a2]) cx mo_X11_asSort ms_X11_asSort tb_1186 (by decide) rfl rfl (Nat.le_of_ble_eq_true rfl) dX11_put_33 (c_X11_asSort ((S2.2.2.1 66 a0.toNatClampNeg) - 50) a2 _ e8) ?_
    obtain ⟨c9, h⟩ := g_if h
    refine q_last cx (by decide) rfl c9 dX11_put_36 ?_
    obtain ⟨S10, e11, h⟩ := g_let_ex h
    rw [← e11]
    exact q_weak (z_wk_n (z_wk_n (z_wk_n (z_wk_n (z_wk_n (z_wk_s (z_wk_0))))))) (t_X11_put_37 cx ce v1 S10 h)
theorem c_X11_put {g : z_G} (a0 : Int32) (a1 : Int32) (a2 : Int64) (S : z_Stt) {v : Int32} {S' : z_Stt} (h : f_X11_put a0 a1 a2 S = some (v, S')) : z_Ct g M_X11_put 3 [.ref (z_ad g 48), .int a0, .int a1, .long a2] (hp g S) (z_P g (some (.int v)) S') :=
  z_Ct.of (by decide +kernel) rfl (Nat.le_of_ble_eq_true rfl) (fun K cx ce => q_weak (L' := [some (.ref (z_ad g 48)), some (.int a0), some (.int a1), some (.long a2), none, none]) (z_wk_s (z_wk_s (z_wk_s (z_wk_s (z_wk_n (z_wk_e (z_wk_0))))))) (t_X11_put cx ce a0 a1 a2 S h))
abbrev M_X11_element : z_M := (RX11, yX11_element, cX11_element, 3, some .long)
theorem mo_X11_element : z_mo M_X11_element 2 := ⟨tb_1196, tb_5, rfl, ⟨by decide +kernel, by decide +kernel⟩, by decide +kernel, by decide⟩
theorem mv_X11_element : z_mv M_X11_element := ⟨tb_1194, tb_1195⟩
def f_X11_element (a0 : Int32) (a1 : Int32) (S : z_Stt) : Option (Int64 × z_Stt) :=
  g_bd (f_X11_refusal a0 a1 S) fun v1 S2 =>
  if v1 = 0 then
    if ¬ ((60 * a0) + a1 < 0 ∨ 360 ≤ ((60 * a0) + a1).toNatClampNeg) then
      some (S2.2.2.2.1 68 ((60 * a0) + a1).toNatClampNeg, S2)
    else none
  else
    some ((-9223372036854775808), S2)
set_option maxHeartbeats 4000000 in
set_option maxRecDepth 100000 in
theorem t_X11_element {g : z_G} {K : z_K} {v : Int64} {S' : z_Stt} (cx : z_C g M_X11_element 3 K) (ce : z_E' g M_X11_element (z_P g (some (.long v)) S') K) (a0 : Int32) (a1 : Int32) (S : z_Stt) (h : f_X11_element a0 a1 S = some (v, S')) : z_At g M_X11_element K 0 [some (.ref (z_ad g 48)), some (.int a0), some (.int a1)] [] (hp g S) := by
  unfold f_X11_element at h
  refine z_aload_n cx rfl rfl dX11_element_0 ?_
  refine z_iload_n cx rfl rfl dX11_element_1 ?_
  refine z_iload_n cx rfl rfl dX11_element_2 ?_
  obtain ⟨v1, S2, e3, h⟩ := g_bd_ex h
  refine q_cvi (As := [.int a0, .int a1]) cx mo_X11_refusal mv_X11_refusal z_cl11 rfl tb_1182 (by decide) rfl (by decide) rfl rfl (Nat.le_of_ble_eq_true rfl) dX11_element_3 (c_X11_refusal a0 a1 _ e3) ?_
  refine z_if_eq (tgt := 15) cx (by decide) dX11_element_6 (fun c4 => ?_) (fun c4 => ?_)
  · have h := g_t c4 h
    refine z_aload_n cx rfl rfl dX11_element_15 ?_
    refine q_getF (k := 48) (n := 68) (r := 20) cx z_cl11 (j := 44) (by decide) tb_161 rfl (by decide) rfl rfl rfl dX11_element_16 ?_
    refine z_bipush (v := 60) cx (by decide +kernel) dX11_element_19 ?_
    refine z_iload_n cx rfl rfl dX11_element_21 ?_
    refine z_imul cx dX11_element_22 ?_
    refine z_iload_n cx rfl rfl dX11_element_23 ?_
    refine z_iadd cx dX11_element_24 ?_
    obtain ⟨c5, h⟩ := g_if h
    refine q_lald cx (by decide) rfl c5 dX11_element_25 ?_
    obtain ⟨rfl, rfl⟩ := g_some h
    exact z_lreturn cx ce rfl ⟨rfl, rfl⟩ dX11_element_26
  · have h := g_f c4 h
    refine z_ldc2 cx tb_485 dX11_element_9 ?_
    refine z_goto (tgt := 26) cx (by decide) dX11_element_12 ?_
    obtain ⟨rfl, rfl⟩ := g_some h
    exact z_lreturn cx ce rfl ⟨rfl, rfl⟩ dX11_element_26
theorem c_X11_element {g : z_G} (a0 : Int32) (a1 : Int32) (S : z_Stt) {v : Int64} {S' : z_Stt} (h : f_X11_element a0 a1 S = some (v, S')) : z_Ct g M_X11_element 3 [.ref (z_ad g 48), .int a0, .int a1] (hp g S) (z_P g (some (.long v)) S') :=
  z_Ct.of (by decide +kernel) rfl (Nat.le_of_ble_eq_true rfl) (fun K cx ce => q_weak (L' := [some (.ref (z_ad g 48)), some (.int a0), some (.int a1)]) (z_wk_s (z_wk_s (z_wk_s (z_wk_0)))) (t_X11_element cx ce a0 a1 S h))
abbrev M_X11_shift : z_M := (RX11, yX11_shift, cX11_shift, 7, some .int)
theorem mo_X11_shift : z_mo M_X11_shift 5 := ⟨tb_1211, tb_5, rfl, ⟨by decide +kernel, by decide +kernel⟩, by decide +kernel, by decide⟩
theorem mv_X11_shift : z_mv M_X11_shift := ⟨tb_1209, tb_1210⟩
def f_X11_shift_150 (n : Nat) : Nat → Int32 → Int32 → Int32 → Int32 → z_Stt → Option (Int32 × z_Stt)
  | 0, _, _, _, _, _ => none
  | m + 1, x3, x4, x5, x6, S =>
    if x5 ≤ x6 then
      some (x5, S)
    else
      if ¬ (x6 < 0 ∨ 60 ≤ x6.toNatClampNeg) then
        if ¬ (((60 * x3) + x4) + x6 < 0 ∨ 360 ≤ (((60 * x3) + x4) + x6).toNatClampNeg) then
          g_let (sE S 68 (vp_updL (S.2.2.2.1 68) (((60 * x3) + x4) + x6).toNatClampNeg (S.2.2.2.1 69 x6.toNatClampNeg))) fun S4 =>
          f_X11_shift_150 n m x3 x4 x5 (x6 + 1) S4
        else none
      else none
set_option maxHeartbeats 4000000 in
set_option maxRecDepth 100000 in
theorem t_X11_shift_150 {g : z_G} {K : z_K} (n : Nat) {v : Int32} {S' : z_Stt} (cx : z_C g M_X11_shift 2 K) (ce : z_E' g M_X11_shift (z_P g (some (.int v)) S') K) : ∀ (m : Nat) (x3 : Int32) (x4 : Int32) (x5 : Int32) (x6 : Int32) (S : z_Stt) (h : f_X11_shift_150 n m x3 x4 x5 x6 S = some (v, S')), z_At g M_X11_shift K 150 [some (.ref (z_ad g 48)), none, none, some (.int x3), some (.int x4), some (.int x5), some (.int x6)] [] (hp g S) := by
  intro m
  induction m with
  | zero => intro x3 x4 x5 x6 S h; simp [f_X11_shift_150] at h
  | succ m ih =>
    intro x3 x4 x5 x6 S h
    rw [f_X11_shift_150] at h
    refine z_iload cx rfl dX11_shift_150 ?_
    refine z_iload cx rfl dX11_shift_152 ?_
    refine z_icmp_ge (tgt := 185) cx (by decide) dX11_shift_154 (fun c1 => ?_) (fun c1 => ?_)
    · have h := g_t c1 h
      refine z_iload cx rfl dX11_shift_185 ?_
      obtain ⟨rfl, rfl⟩ := g_some h
      exact z_ireturn cx ce rfl ⟨rfl, rfl⟩ dX11_shift_187
    · have h := g_f c1 h
      refine z_aload_n cx rfl rfl dX11_shift_157 ?_
      refine q_getF (k := 48) (n := 68) (r := 20) cx z_cl11 (j := 44) (by decide) tb_161 rfl (by decide) rfl rfl rfl dX11_shift_158 ?_
      refine z_bipush (v := 60) cx (by decide +kernel) dX11_shift_161 ?_
      refine z_iload_n cx rfl rfl dX11_shift_163 ?_
      refine z_imul cx dX11_shift_164 ?_
      refine z_iload cx rfl dX11_shift_165 ?_
      refine z_iadd cx dX11_shift_167 ?_
      refine z_iload cx rfl dX11_shift_168 ?_
      refine z_iadd cx dX11_shift_170 ?_
      refine z_aload_n cx rfl rfl dX11_shift_171 ?_
      refine q_getF (k := 48) (n := 69) (r := 21) cx z_cl11 (j := 45) (by decide) tb_162 rfl (by decide) rfl rfl rfl dX11_shift_172 ?_
      refine z_iload cx rfl dX11_shift_175 ?_
      obtain ⟨c2, h⟩ := g_if h
      refine q_lald cx (by decide) rfl c2 dX11_shift_177 ?_
      obtain ⟨c3, h⟩ := g_if h
      refine q_last cx (by decide) rfl c3 dX11_shift_178 ?_
      obtain ⟨S4, e5, h⟩ := g_let_ex h
      rw [← e5]
      refine z_iinc (c := 1) (L' := [some (.ref (z_ad g 48)), none, none, some (.int x3), some (.int x4), some (.int x5), some (.int (x6 + 1))]) cx rfl (by decide +kernel) (by decide) rfl dX11_shift_179 ?_
      refine z_goto (tgt := 150) cx (by decide) dX11_shift_182 ?_
      exact q_weak (z_wk_s (z_wk_n (z_wk_n (z_wk_s (z_wk_s (z_wk_s (z_wk_s (z_wk_0)))))))) (ih x3 x4 x5 (x6 + 1) S4 h)
def f_X11_shift_113 (n : Nat) : Nat → Int32 → Int32 → Int32 → Int32 → Int32 → Int32 → z_Stt → Option (Int32 × z_Stt)
  | 0, _, _, _, _, _, _, _ => none
  | m + 1, x1, x2, x3, x4, x5, x6, S =>
    if x5 ≤ x6 then
      f_X11_shift_150 n n x3 x4 x5 0 S
    else
      if ¬ (((60 * x1) + x2) + x6 < 0 ∨ 360 ≤ (((60 * x1) + x2) + x6).toNatClampNeg) then
        if ¬ (x6 < 0 ∨ 60 ≤ x6.toNatClampNeg) then
          g_let (sE S 69 (vp_updL (S.2.2.2.1 69) x6.toNatClampNeg (S.2.2.2.1 68 (((60 * x1) + x2) + x6).toNatClampNeg))) fun S4 =>
          f_X11_shift_113 n m x1 x2 x3 x4 x5 (x6 + 1) S4
        else none
      else none
set_option maxHeartbeats 4000000 in
set_option maxRecDepth 100000 in
theorem t_X11_shift_113 {g : z_G} {K : z_K} (n : Nat) {v : Int32} {S' : z_Stt} (cx : z_C g M_X11_shift 2 K) (ce : z_E' g M_X11_shift (z_P g (some (.int v)) S') K) : ∀ (m : Nat) (x1 : Int32) (x2 : Int32) (x3 : Int32) (x4 : Int32) (x5 : Int32) (x6 : Int32) (S : z_Stt) (h : f_X11_shift_113 n m x1 x2 x3 x4 x5 x6 S = some (v, S')), z_At g M_X11_shift K 113 [some (.ref (z_ad g 48)), some (.int x1), some (.int x2), some (.int x3), some (.int x4), some (.int x5), some (.int x6)] [] (hp g S) := by
  intro m
  induction m with
  | zero => intro x1 x2 x3 x4 x5 x6 S h; simp [f_X11_shift_113] at h
  | succ m ih =>
    intro x1 x2 x3 x4 x5 x6 S h
    rw [f_X11_shift_113] at h
    refine z_iload cx rfl dX11_shift_113 ?_
    refine z_iload cx rfl dX11_shift_115 ?_
    refine z_icmp_ge (tgt := 147) cx (by decide) dX11_shift_117 (fun c1 => ?_) (fun c1 => ?_)
    · have h := g_t c1 h
      refine z_iconst (v := 0) cx (by decide +kernel) dX11_shift_147 ?_
      refine z_istore (L' := [some (.ref (z_ad g 48)), some (.int x1), some (.int x2), some (.int x3), some (.int x4), some (.int x5), some (.int 0)]) cx (by decide) rfl dX11_shift_148 ?_
      exact q_weak (z_wk_s (z_wk_n (z_wk_n (z_wk_s (z_wk_s (z_wk_s (z_wk_s (z_wk_0)))))))) (t_X11_shift_150 n cx ce n x3 x4 x5 0 S h)
    · have h := g_f c1 h
      refine z_aload_n cx rfl rfl dX11_shift_120 ?_
      refine q_getF (k := 48) (n := 69) (r := 21) cx z_cl11 (j := 45) (by decide) tb_162 rfl (by decide) rfl rfl rfl dX11_shift_121 ?_
      refine z_iload cx rfl dX11_shift_124 ?_
      refine z_aload_n cx rfl rfl dX11_shift_126 ?_
      refine q_getF (k := 48) (n := 68) (r := 20) cx z_cl11 (j := 44) (by decide) tb_161 rfl (by decide) rfl rfl rfl dX11_shift_127 ?_
      refine z_bipush (v := 60) cx (by decide +kernel) dX11_shift_130 ?_
      refine z_iload_n cx rfl rfl dX11_shift_132 ?_
      refine z_imul cx dX11_shift_133 ?_
      refine z_iload_n cx rfl rfl dX11_shift_134 ?_
      refine z_iadd cx dX11_shift_135 ?_
      refine z_iload cx rfl dX11_shift_136 ?_
      refine z_iadd cx dX11_shift_138 ?_
      obtain ⟨c2, h⟩ := g_if h
      refine q_lald cx (by decide) rfl c2 dX11_shift_139 ?_
      obtain ⟨c3, h⟩ := g_if h
      refine q_last cx (by decide) rfl c3 dX11_shift_140 ?_
      obtain ⟨S4, e5, h⟩ := g_let_ex h
      rw [← e5]
      refine z_iinc (c := 1) (L' := [some (.ref (z_ad g 48)), some (.int x1), some (.int x2), some (.int x3), some (.int x4), some (.int x5), some (.int (x6 + 1))]) cx rfl (by decide +kernel) (by decide) rfl dX11_shift_141 ?_
      refine z_goto (tgt := 113) cx (by decide) dX11_shift_144 ?_
      exact q_weak (z_wk_s (z_wk_s (z_wk_s (z_wk_s (z_wk_s (z_wk_s (z_wk_s (z_wk_0)))))))) (ih x1 x2 x3 x4 x5 (x6 + 1) S4 h)
def f_X11_shift (n : Nat) (a0 : Int32) (a1 : Int32) (a2 : Int32) (a3 : Int32) (a4 : Int32) (S : z_Stt) : Option (Int32 × z_Stt) :=
  g_bd (f_X11_isShelf a0 S) fun v1 S2 =>
  if v1 = true then
    g_bd (f_X11_isShelf a2 S2) fun v5 S6 =>
    if v5 = true then
      if ¬ (a0 < 0 ∨ 6 ≤ a0.toNatClampNeg) then
        if S6.2.2.1 66 a0.toNatClampNeg < 0 then
          some ((-11), S6)
        else
          if ¬ (a2 < 0 ∨ 6 ≤ a2.toNatClampNeg) then
            if 0 ≤ S6.2.2.1 66 a2.toNatClampNeg then
              if ¬ (a0 < 0 ∨ 6 ≤ a0.toNatClampNeg) then
                if S6.2.2.1 66 a0.toNatClampNeg < 50 then
                  some ((-12), S6)
                else
                  if ¬ (a0 < 0 ∨ 6 ≤ a0.toNatClampNeg) then
                    if ¬ (a2 < 0 ∨ 6 ≤ a2.toNatClampNeg) then
                      if S6.2.2.1 66 a0.toNatClampNeg = S6.2.2.1 66 a2.toNatClampNeg then
                        if a4 < 0 then
                          some ((-13), S6)
                        else
                          if a1 < 0 then
                            some ((-13), S6)
                          else
                            if a3 < 0 then
                              some ((-13), S6)
                            else
                              if ¬ (a0 < 0 ∨ 6 ≤ a0.toNatClampNeg) then
                                if (S6.2.2.1 67 a0.toNatClampNeg) - a4 < a1 then
                                  some ((-13), S6)
                                else
                                  if ¬ (a2 < 0 ∨ 6 ≤ a2.toNatClampNeg) then
                                    if a3 ≤ (S6.2.2.1 67 a2.toNatClampNeg) - a4 then
                                      f_X11_shift_113 n n a0 a1 a2 a3 a4 0 S6
                                    else
                                      some ((-13), S6)
                                  else none
                              else none
                      else
                        some ((-12), S6)
                    else none
                  else none
              else none
            else
              some ((-11), S6)
          else none
      else none
    else
      some ((-1), S6)
  else
    some ((-1), S2)
set_option maxHeartbeats 4000000 in
set_option maxRecDepth 100000 in
theorem t_X11_shift {g : z_G} {K : z_K} (n : Nat) {v : Int32} {S' : z_Stt} (cx : z_C g M_X11_shift 2 K) (ce : z_E' g M_X11_shift (z_P g (some (.int v)) S') K) (a0 : Int32) (a1 : Int32) (a2 : Int32) (a3 : Int32) (a4 : Int32) (S : z_Stt) (h : f_X11_shift n a0 a1 a2 a3 a4 S = some (v, S')) : z_At g M_X11_shift K 0 [some (.ref (z_ad g 48)), some (.int a0), some (.int a1), some (.int a2), some (.int a3), some (.int a4), none] [] (hp g S) := by
  unfold f_X11_shift at h
  refine z_iload_n cx rfl rfl dX11_shift_0 ?_
  obtain ⟨v1, S2, e3, h⟩ := g_bd_ex h
  refine q_csi (As := [.int a0]) cx mo_X11_isShelf ms_X11_isShelf tb_222 (by decide) rfl rfl (Nat.le_of_ble_eq_true rfl) dX11_shift_1 (c_X11_isShelf a0 _ e3) ?_
  refine q_ifb_eq (tgt := 14) cx (by decide) dX11_shift_4 (fun c4 => ?_) (fun c4 => ?_)
  · have h := g_f (Bool.eq_false_iff.mp c4) h
    refine z_iconst (v := (-1)) cx (by decide +kernel) dX11_shift_14 ?_
    obtain ⟨rfl, rfl⟩ := g_some h
    exact z_ireturn cx ce rfl ⟨rfl, rfl⟩ dX11_shift_15
  · have h := g_t c4 h
    refine z_iload_n cx rfl rfl dX11_shift_7 ?_
    obtain ⟨v5, S6, e7, h⟩ := g_bd_ex h
    refine q_csi (As := [.int a2]) cx mo_X11_isShelf ms_X11_isShelf tb_222 (by decide) rfl rfl (Nat.le_of_ble_eq_true rfl) dX11_shift_8 (c_X11_isShelf a2 _ e7) ?_
    refine q_ifb_ne (tgt := 16) cx (by decide) dX11_shift_11 (fun c8 => ?_) (fun c8 => ?_)
    · have h := g_t c8 h
      refine z_aload_n cx rfl rfl dX11_shift_16 ?_
      refine q_getF (k := 48) (n := 66) (r := 18) cx z_cl11 (j := 42) (by decide) tb_159 rfl (by decide) rfl rfl rfl dX11_shift_17 ?_
      refine z_iload_n cx rfl rfl dX11_shift_20 ?_
      obtain ⟨c9, h⟩ := g_if h
      refine q_iald cx (by decide) rfl c9 dX11_shift_21 ?_
      refine z_if_lt (tgt := 34) cx (by decide) dX11_shift_22 (fun c10 => ?_) (fun c10 => ?_)
      · have h := g_t c10 h
        refine z_bipush (v := (-11)) cx (by decide +kernel) dX11_shift_34 ?_
        obtain ⟨rfl, rfl⟩ := g_some h
        exact z_ireturn cx ce rfl ⟨rfl, rfl⟩ dX11_shift_36
      · have h := g_f c10 h
        refine z_aload_n cx rfl rfl dX11_shift_25 ?_
        refine q_getF (k := 48) (n := 66) (r := 18) cx z_cl11 (j := 42) (by decide) tb_159 rfl (by decide) rfl rfl rfl dX11_shift_26 ?_
        refine z_iload_n cx rfl rfl dX11_shift_29 ?_
        obtain ⟨c11, h⟩ := g_if h
        refine q_iald cx (by decide) rfl c11 dX11_shift_30 ?_
        refine z_if_ge (tgt := 37) cx (by decide) dX11_shift_31 (fun c12 => ?_) (fun c12 => ?_)
        · have h := g_t c12 h
          refine z_aload_n cx rfl rfl dX11_shift_37 ?_
          refine q_getF (k := 48) (n := 66) (r := 18) cx z_cl11 (j := 42) (by decide) tb_159 rfl (by decide) rfl rfl rfl dX11_shift_38 ?_
          refine z_iload_n cx rfl rfl dX11_shift_41 ?_
          obtain ⟨c13, h⟩ := g_if h
          refine q_iald cx (by decide) rfl c13 dX11_shift_42 ?_
          refine z_bipush (v := 50) cx (by decide +kernel) dX11_shift_43 ?_
          refine z_icmp_lt (tgt := 63) cx (by decide) dX11_shift_45 (fun c14 => ?_) (fun c14 => ?_)
          · have h := g_t c14 h
            refine z_bipush (v := (-12)) cx (by decide +kernel) dX11_shift_63 ?_
            obtain ⟨rfl, rfl⟩ := g_some h
            exact z_ireturn cx ce rfl ⟨rfl, rfl⟩ dX11_shift_65
          · have h := g_f c14 h
            refine z_aload_n cx rfl rfl dX11_shift_48 ?_
            refine q_getF (k := 48) (n := 66) (r := 18) cx z_cl11 (j := 42) (by decide) tb_159 rfl (by decide) rfl rfl rfl dX11_shift_49 ?_
            refine z_iload_n cx rfl rfl dX11_shift_52 ?_
            obtain ⟨c15, h⟩ := g_if h
            refine q_iald cx (by decide) rfl c15 dX11_shift_53 ?_
            refine z_aload_n cx rfl rfl dX11_shift_54 ?_
            refine q_getF (k := 48) (n := 66) (r := 18) cx z_cl11 (j := 42) (by decide) tb_159 rfl (by decide) rfl rfl rfl dX11_shift_55 ?_
            refine z_iload_n cx rfl rfl dX11_shift_58 ?_
            obtain ⟨c16, h⟩ := g_if h
            refine q_iald cx (by decide) rfl c16 dX11_shift_59 ?_
            refine z_icmp_eq (tgt := 66) cx (by decide) dX11_shift_60 (fun c17 => ?_) (fun c17 => ?_)
            · have h := g_t c17 h
              refine z_iload cx rfl dX11_shift_66 ?_
              refine z_if_lt (tgt := 107) cx (by decide) dX11_shift_68 (fun c18 => ?_) (fun c18 => ?_)
              · have h := g_t c18 h
                refine z_bipush (v := (-13)) cx (by decide +kernel) dX11_shift_107 ?_
                obtain ⟨rfl, rfl⟩ := g_some h
                exact z_ireturn cx ce rfl ⟨rfl, rfl⟩ dX11_shift_109
              · have h := g_f c18 h
                refine z_iload_n cx rfl rfl dX11_shift_71 ?_
                refine z_if_lt (tgt := 107) cx (by decide) dX11_shift_72 (fun c19 => ?_) (fun c19 => ?_)
                · have h := g_t c19 h
                  refine z_bipush (v := (-13)) cx (by decide +kernel) dX11_shift_107 ?_
                  obtain ⟨rfl, rfl⟩ := g_some h
                  exact z_ireturn cx ce rfl ⟨rfl, rfl⟩ dX11_shift_109
                · have h := g_f c19 h
                  refine z_iload cx rfl dX11_shift_75 ?_
                  refine z_if_lt (tgt := 107) cx (by decide) dX11_shift_77 (fun c20 => ?_) (fun c20 => ?_)
                  · have h := g_t c20 h
                    refine z_bipush (v := (-13)) cx (by decide +kernel) dX11_shift_107 ?_
                    obtain ⟨rfl, rfl⟩ := g_some h
                    exact z_ireturn cx ce rfl ⟨rfl, rfl⟩ dX11_shift_109
                  · have h := g_f c20 h
                    refine z_iload_n cx rfl rfl dX11_shift_80 ?_
                    refine z_aload_n cx rfl rfl dX11_shift_81 ?_
                    refine q_getF (k := 48) (n := 67) (r := 19) cx z_cl11 (j := 43) (by decide) tb_160 rfl (by decide) rfl rfl rfl dX11_shift_82 ?_
                    refine z_iload_n cx rfl rfl dX11_shift_85 ?_
                    obtain ⟨c21, h⟩ := g_if h
                    refine q_iald cx (by decide) rfl c21 dX11_shift_86 ?_
                    refine z_iload cx rfl dX11_shift_87 ?_
                    refine z_isub cx dX11_shift_89 ?_
                    refine z_icmp_gt (tgt := 107) cx (by decide) dX11_shift_90 (fun c22 => ?_) (fun c22 => ?_)
                    · have h := g_t c22 h
                      refine z_bipush (v := (-13)) cx (by decide +kernel) dX11_shift_107 ?_
                      obtain ⟨rfl, rfl⟩ := g_some h
                      exact z_ireturn cx ce rfl ⟨rfl, rfl⟩ dX11_shift_109
                    · have h := g_f c22 h
                      refine z_iload cx rfl dX11_shift_93 ?_
                      refine z_aload_n cx rfl rfl dX11_shift_95 ?_
                      refine q_getF (k := 48) (n := 67) (r := 19) cx z_cl11 (j := 43) (by decide) tb_160 rfl (by decide) rfl rfl rfl dX11_shift_96 ?_
                      refine z_iload_n cx rfl rfl dX11_shift_99 ?_
                      obtain ⟨c23, h⟩ := g_if h
                      refine q_iald cx (by decide) rfl c23 dX11_shift_100 ?_
                      refine z_iload cx rfl dX11_shift_101 ?_
                      refine z_isub cx dX11_shift_103 ?_
                      refine z_icmp_le (tgt := 110) cx (by decide) dX11_shift_104 (fun c24 => ?_) (fun c24 => ?_)
                      · have h := g_t c24 h
                        refine z_iconst (v := 0) cx (by decide +kernel) dX11_shift_110 ?_
                        refine z_istore (L' := [some (.ref (z_ad g 48)), some (.int a0), some (.int a1), some (.int a2), some (.int a3), some (.int a4), some (.int 0)]) cx (by decide) rfl dX11_shift_111 ?_
                        exact q_weak (z_wk_s (z_wk_s (z_wk_s (z_wk_s (z_wk_s (z_wk_s (z_wk_s (z_wk_0)))))))) (t_X11_shift_113 n cx ce n a0 a1 a2 a3 a4 0 S6 h)
                      · have h := g_f c24 h
                        refine z_bipush (v := (-13)) cx (by decide +kernel) dX11_shift_107 ?_
                        obtain ⟨rfl, rfl⟩ := g_some h
                        exact z_ireturn cx ce rfl ⟨rfl, rfl⟩ dX11_shift_109
            · have h := g_f c17 h
              refine z_bipush (v := (-12)) cx (by decide +kernel) dX11_shift_63 ?_
              obtain ⟨rfl, rfl⟩ := g_some h
              exact z_ireturn cx ce rfl ⟨rfl, rfl⟩ dX11_shift_65
        · have h := g_f c12 h
          refine z_bipush (v := (-11)) cx (by decide +kernel) dX11_shift_34 ?_
          obtain ⟨rfl, rfl⟩ := g_some h
          exact z_ireturn cx ce rfl ⟨rfl, rfl⟩ dX11_shift_36
    · have h := g_f (Bool.eq_false_iff.mp c8) h
      refine z_iconst (v := (-1)) cx (by decide +kernel) dX11_shift_14 ?_
      obtain ⟨rfl, rfl⟩ := g_some h
      exact z_ireturn cx ce rfl ⟨rfl, rfl⟩ dX11_shift_15
theorem c_X11_shift {g : z_G} {n : Nat} (a0 : Int32) (a1 : Int32) (a2 : Int32) (a3 : Int32) (a4 : Int32) (S : z_Stt) {v : Int32} {S' : z_Stt} (h : f_X11_shift n a0 a1 a2 a3 a4 S = some (v, S')) : z_Ct g M_X11_shift 2 [.ref (z_ad g 48), .int a0, .int a1, .int a2, .int a3, .int a4] (hp g S) (z_P g (some (.int v)) S') :=
  z_Ct.of (by decide +kernel) rfl (Nat.le_of_ble_eq_true rfl) (fun K cx ce => q_weak (L' := [some (.ref (z_ad g 48)), some (.int a0), some (.int a1), some (.int a2), some (.int a3), some (.int a4), none]) (z_wk_s (z_wk_s (z_wk_s (z_wk_s (z_wk_s (z_wk_s (z_wk_e (z_wk_0)))))))) (t_X11_shift n cx ce a0 a1 a2 a3 a4 S h))
abbrev M_X11_taken : z_M := (RX11, yX11_taken, cX11_taken, 4, some .int)
theorem mo_X11_taken : z_mo M_X11_taken 2 := ⟨tb_1224, tb_5, rfl, ⟨by decide +kernel, by decide +kernel⟩, by decide +kernel, by decide⟩
theorem mv_X11_taken : z_mv M_X11_taken := ⟨tb_1222, tb_1223⟩
def f_X11_taken_75 (n : Nat) (x1 : Int32) (x2 : Int32) (x3 : Int32) (S : z_Stt) : Option (Int32 × z_Stt) :=
  if x3 = x2 then
    if ¬ (x1 < 0 ∨ 6 ≤ x1.toNatClampNeg) then
      g_bd (f_X11_kindOf (S.2.2.1 66 x1.toNatClampNeg) S) fun v3 S4 =>
      some (v3, S4)
    else none
  else
    some ((-12), S)
set_option maxHeartbeats 4000000 in
set_option maxRecDepth 100000 in
theorem t_X11_taken_75 {g : z_G} {K : z_K} (n : Nat) {v : Int32} {S' : z_Stt} (cx : z_C g M_X11_taken 2 K) (ce : z_E' g M_X11_taken (z_P g (some (.int v)) S') K) (x1 : Int32) (x2 : Int32) (x3 : Int32) (S : z_Stt) (h : f_X11_taken_75 n x1 x2 x3 S = some (v, S')) : z_At g M_X11_taken K 75 [some (.ref (z_ad g 48)), some (.int x1), some (.int x2), some (.int x3)] [] (hp g S) := by
  unfold f_X11_taken_75 at h
  refine z_iload_n cx rfl rfl dX11_taken_75 ?_
  refine z_iload_n cx rfl rfl dX11_taken_76 ?_
  refine z_icmp_ne (tgt := 93) cx (by decide) dX11_taken_77 (fun c1 => ?_) (fun c1 => ?_)
  · have h := g_f c1 h
    refine z_bipush (v := (-12)) cx (by decide +kernel) dX11_taken_93 ?_
    obtain ⟨rfl, rfl⟩ := g_some h
    exact z_ireturn cx ce rfl ⟨rfl, rfl⟩ dX11_taken_95
  · have h := g_t c1 h
    refine z_aload_n cx rfl rfl dX11_taken_80 ?_
    refine z_aload_n cx rfl rfl dX11_taken_81 ?_
    refine q_getF (k := 48) (n := 66) (r := 18) cx z_cl11 (j := 42) (by decide) tb_159 rfl (by decide) rfl rfl rfl dX11_taken_82 ?_
    refine z_iload_n cx rfl rfl dX11_taken_85 ?_
    obtain ⟨c2, h⟩ := g_if h
    refine q_iald cx (by decide) rfl c2 dX11_taken_86 ?_
    obtain ⟨v3, S4, e5, h⟩ := g_bd_ex h
    refine q_cvi (As := [.int (S.2.2.1 66 x1.toNatClampNeg)]) cx mo_X11_kindOf mv_X11_kindOf z_cl11 rfl tb_1225 (by decide) rfl (by decide) rfl rfl (Nat.le_of_ble_eq_true rfl) dX11_taken_87 (c_X11_kindOf (S.2.2.1 66 x1.toNatClampNeg) _ e5) ?_
    refine z_goto (tgt := 95) cx (by decide) dX11_taken_90 ?_
    obtain ⟨rfl, rfl⟩ := g_some h
    exact z_ireturn cx ce rfl ⟨rfl, rfl⟩ dX11_taken_95
def f_X11_taken_58 (n : Nat) : Nat → Int32 → Int32 → Int32 → z_Stt → Option (Int32 × z_Stt)
  | 0, _, _, _, _ => none
  | m + 1, x1, x2, x3, S =>
    if x3 = x2 then
      f_X11_taken_75 n x1 x2 x3 S
    else
      if x3 ≤ 0 then
        f_X11_taken_75 n x1 x2 x3 S
      else
        g_bd (f_X11_above x3 S) fun v3 S4 =>
        f_X11_taken_58 n m x1 x2 v3 S4
set_option maxHeartbeats 4000000 in
set_option maxRecDepth 100000 in
theorem t_X11_taken_58 {g : z_G} {K : z_K} (n : Nat) {v : Int32} {S' : z_Stt} (cx : z_C g M_X11_taken 2 K) (ce : z_E' g M_X11_taken (z_P g (some (.int v)) S') K) : ∀ (m : Nat) (x1 : Int32) (x2 : Int32) (x3 : Int32) (S : z_Stt) (h : f_X11_taken_58 n m x1 x2 x3 S = some (v, S')), z_At g M_X11_taken K 58 [some (.ref (z_ad g 48)), some (.int x1), some (.int x2), some (.int x3)] [] (hp g S) := by
  intro m
  induction m with
  | zero => intro x1 x2 x3 S h; simp [f_X11_taken_58] at h
  | succ m ih =>
    intro x1 x2 x3 S h
    rw [f_X11_taken_58] at h
    refine z_iload_n cx rfl rfl dX11_taken_58 ?_
    refine z_iload_n cx rfl rfl dX11_taken_59 ?_
    refine z_icmp_eq (tgt := 75) cx (by decide) dX11_taken_60 (fun c1 => ?_) (fun c1 => ?_)
    · have h := g_t c1 h
      exact q_weak (z_wk_s (z_wk_s (z_wk_s (z_wk_s (z_wk_0))))) (t_X11_taken_75 n cx ce x1 x2 x3 S h)
    · have h := g_f c1 h
      refine z_iload_n cx rfl rfl dX11_taken_63 ?_
      refine z_if_le (tgt := 75) cx (by decide) dX11_taken_64 (fun c2 => ?_) (fun c2 => ?_)
      · have h := g_t c2 h
        exact q_weak (z_wk_s (z_wk_s (z_wk_s (z_wk_s (z_wk_0))))) (t_X11_taken_75 n cx ce x1 x2 x3 S h)
      · have h := g_f c2 h
        refine z_iload_n cx rfl rfl dX11_taken_67 ?_
        obtain ⟨v3, S4, e5, h⟩ := g_bd_ex h
        refine q_csi (As := [.int x3]) cx mo_X11_above ms_X11_above tb_1229 (by decide) rfl rfl (Nat.le_of_ble_eq_true rfl) dX11_taken_68 (c_X11_above x3 _ e5) ?_
        refine z_istore_n (L' := [some (.ref (z_ad g 48)), some (.int x1), some (.int x2), some (.int v3)]) cx rfl (by decide) rfl dX11_taken_71 ?_
        refine z_goto (tgt := 58) cx (by decide) dX11_taken_72 ?_
        exact q_weak (z_wk_s (z_wk_s (z_wk_s (z_wk_s (z_wk_0))))) (ih x1 x2 v3 S4 h)
def f_X11_taken (n : Nat) (a0 : Int32) (a1 : Int32) (S : z_Stt) : Option (Int32 × z_Stt) :=
  g_bd (f_X11_isShelf a0 S) fun v1 S2 =>
  if v1 = true then
    g_bd (f_X11_within (Int32.toInt64 a1) 0 7 S2) fun v5 S6 =>
    if v5 = true then
      if ¬ (a0 < 0 ∨ 6 ≤ a0.toNatClampNeg) then
        if 0 ≤ S6.2.2.1 66 a0.toNatClampNeg then
          if ¬ (a0 < 0 ∨ 6 ≤ a0.toNatClampNeg) then
            if S6.2.2.1 66 a0.toNatClampNeg < 50 then
              if ¬ (a0 < 0 ∨ 6 ≤ a0.toNatClampNeg) then
                g_bd (f_X11_kindOf (S6.2.2.1 66 a0.toNatClampNeg) S6) fun v14 S15 =>
                f_X11_taken_58 n n a0 a1 v14 S15
              else none
            else
              some ((-12), S6)
          else none
        else
          some ((-11), S6)
      else none
    else
      some ((-1), S6)
  else
    some ((-1), S2)
set_option maxHeartbeats 4000000 in
set_option maxRecDepth 100000 in
theorem t_X11_taken {g : z_G} {K : z_K} (n : Nat) {v : Int32} {S' : z_Stt} (cx : z_C g M_X11_taken 2 K) (ce : z_E' g M_X11_taken (z_P g (some (.int v)) S') K) (a0 : Int32) (a1 : Int32) (S : z_Stt) (h : f_X11_taken n a0 a1 S = some (v, S')) : z_At g M_X11_taken K 0 [some (.ref (z_ad g 48)), some (.int a0), some (.int a1), none] [] (hp g S) := by
  unfold f_X11_taken at h
  refine z_iload_n cx rfl rfl dX11_taken_0 ?_
  obtain ⟨v1, S2, e3, h⟩ := g_bd_ex h
  refine q_csi (As := [.int a0]) cx mo_X11_isShelf ms_X11_isShelf tb_222 (by decide) rfl rfl (Nat.le_of_ble_eq_true rfl) dX11_taken_1 (c_X11_isShelf a0 _ e3) ?_
  refine q_ifb_eq (tgt := 19) cx (by decide) dX11_taken_4 (fun c4 => ?_) (fun c4 => ?_)
  · have h := g_f (Bool.eq_false_iff.mp c4) h
    refine z_iconst (v := (-1)) cx (by decide +kernel) dX11_taken_19 ?_
    obtain ⟨rfl, rfl⟩ := g_some h
    exact z_ireturn cx ce rfl ⟨rfl, rfl⟩ dX11_taken_20
  · have h := g_t c4 h
    refine z_iload_n cx rfl rfl dX11_taken_7 ?_
    refine z_i2l cx dX11_taken_8 ?_
    refine z_lconst (v := 0) cx (by decide +kernel) dX11_taken_9 ?_
    refine z_ldc2 cx tb_823 dX11_taken_10 ?_
    obtain ⟨v5, S6, e7, h⟩ := g_bd_ex h
    refine q_csi (As := [.long (Int32.toInt64 a1), .long 0, .long 7]) cx mo_X11_within ms_X11_within tb_185 (by decide) rfl rfl (Nat.le_of_ble_eq_true rfl) dX11_taken_13 (c_X11_within (Int32.toInt64 a1) 0 7 _ e7) ?_
    refine q_ifb_ne (tgt := 21) cx (by decide) dX11_taken_16 (fun c8 => ?_) (fun c8 => ?_)
    · have h := g_t c8 h
      refine z_aload_n cx rfl rfl dX11_taken_21 ?_
      refine q_getF (k := 48) (n := 66) (r := 18) cx z_cl11 (j := 42) (by decide) tb_159 rfl (by decide) rfl rfl rfl dX11_taken_22 ?_
      refine z_iload_n cx rfl rfl dX11_taken_25 ?_
      obtain ⟨c9, h⟩ := g_if h
      refine q_iald cx (by decide) rfl c9 dX11_taken_26 ?_
      refine z_if_ge (tgt := 33) cx (by decide) dX11_taken_27 (fun c10 => ?_) (fun c10 => ?_)
      · have h := g_t c10 h
        refine z_aload_n cx rfl rfl dX11_taken_33 ?_
        refine q_getF (k := 48) (n := 66) (r := 18) cx z_cl11 (j := 42) (by decide) tb_159 rfl (by decide) rfl rfl rfl dX11_taken_34 ?_
        refine z_iload_n cx rfl rfl dX11_taken_37 ?_
        obtain ⟨c11, h⟩ := g_if h
        refine q_iald cx (by decide) rfl c11 dX11_taken_38 ?_
        refine z_bipush (v := 50) cx (by decide +kernel) dX11_taken_39 ?_
        refine z_icmp_lt (tgt := 47) cx (by decide) dX11_taken_41 (fun c12 => ?_) (fun c12 => ?_)
        · have h := g_t c12 h
          refine z_aload_n cx rfl rfl dX11_taken_47 ?_
          refine z_aload_n cx rfl rfl dX11_taken_48 ?_
          refine q_getF (k := 48) (n := 66) (r := 18) cx z_cl11 (j := 42) (by decide) tb_159 rfl (by decide) rfl rfl rfl dX11_taken_49 ?_
          refine z_iload_n cx rfl rfl dX11_taken_52 ?_
          obtain ⟨c13, h⟩ := g_if h
          refine q_iald cx (by decide) rfl c13 dX11_taken_53 ?_
          obtain ⟨v14, S15, e16, h⟩ := g_bd_ex h
          refine q_cvi (As := [.int (S6.2.2.1 66 a0.toNatClampNeg)]) cx mo_X11_kindOf mv_X11_kindOf z_cl11 rfl tb_1225 (by decide) rfl (by decide) rfl rfl (Nat.le_of_ble_eq_true rfl) dX11_taken_54 (c_X11_kindOf (S6.2.2.1 66 a0.toNatClampNeg) _ e16) ?_
          refine z_istore_n (L' := [some (.ref (z_ad g 48)), some (.int a0), some (.int a1), some (.int v14)]) cx rfl (by decide) rfl dX11_taken_57 ?_
          exact q_weak (z_wk_s (z_wk_s (z_wk_s (z_wk_s (z_wk_0))))) (t_X11_taken_58 n cx ce n a0 a1 v14 S15 h)
        · have h := g_f c12 h
          refine z_bipush (v := (-12)) cx (by decide +kernel) dX11_taken_44 ?_
          obtain ⟨rfl, rfl⟩ := g_some h
          exact z_ireturn cx ce rfl ⟨rfl, rfl⟩ dX11_taken_46
      · have h := g_f c10 h
        refine z_bipush (v := (-11)) cx (by decide +kernel) dX11_taken_30 ?_
        obtain ⟨rfl, rfl⟩ := g_some h
        exact z_ireturn cx ce rfl ⟨rfl, rfl⟩ dX11_taken_32
    · have h := g_f (Bool.eq_false_iff.mp c8) h
      refine z_iconst (v := (-1)) cx (by decide +kernel) dX11_taken_19 ?_
      obtain ⟨rfl, rfl⟩ := g_some h
      exact z_ireturn cx ce rfl ⟨rfl, rfl⟩ dX11_taken_20
theorem c_X11_taken {g : z_G} {n : Nat} (a0 : Int32) (a1 : Int32) (S : z_Stt) {v : Int32} {S' : z_Stt} (h : f_X11_taken n a0 a1 S = some (v, S')) : z_Ct g M_X11_taken 2 [.ref (z_ad g 48), .int a0, .int a1] (hp g S) (z_P g (some (.int v)) S') :=
  z_Ct.of (by decide +kernel) rfl (Nat.le_of_ble_eq_true rfl) (fun K cx ce => q_weak (L' := [some (.ref (z_ad g 48)), some (.int a0), some (.int a1), none]) (z_wk_s (z_wk_s (z_wk_s (z_wk_e (z_wk_0))))) (t_X11_taken n cx ce a0 a1 S h))
abbrev M_X11_count : z_M := (RX11, yX11_count, cX11_count, 2, some .int)
theorem mo_X11_count : z_mo M_X11_count 1 := ⟨tb_1243, tb_5, rfl, ⟨by decide +kernel, by decide +kernel⟩, by decide +kernel, by decide⟩
theorem mv_X11_count : z_mv M_X11_count := ⟨tb_1241, tb_1242⟩
def f_X11_count (n : Nat) (a0 : Int32) (S : z_Stt) : Option (Int32 × z_Stt) :=
  if a0 = 0 then
    some (S.1 4806, S)
  else if a0 = 1 then
    g_bd (f_X11_markedMany n S) fun v3 S4 =>
    some (v3, S4)
  else if a0 = 2 then
    some (S.1 4814, S)
  else if a0 = 3 then
    some (S.1 4805, S)
  else if a0 = 4 then
    some (S.1 4836, S)
  else if a0 = 5 then
    some (S.1 4839, S)
  else 
    some ((-1), S)
set_option maxHeartbeats 4000000 in
set_option maxRecDepth 100000 in
theorem t_X11_count {g : z_G} {K : z_K} (n : Nat) {v : Int32} {S' : z_Stt} (cx : z_C g M_X11_count 2 K) (ce : z_E' g M_X11_count (z_P g (some (.int v)) S') K) (a0 : Int32) (S : z_Stt) (h : f_X11_count n a0 S = some (v, S')) : z_At g M_X11_count K 0 [some (.ref (z_ad g 48)), some (.int a0)] [] (hp g S) := by
  unfold f_X11_count at h
  refine z_iload_n cx rfl rfl dX11_count_0 ?_
  by_cases c1 : a0 = 0
  · have h := g_t c1 h
    refine z_tableIn (tgt := 40) (off := 39) cx (by rw [c1]; decide +kernel) (by rw [c1]; decide +kernel) (by rw [c1]; decide +kernel) (by decide) dX11_count_1 ?_
    refine z_aload_n cx rfl rfl dX11_count_40 ?_
    refine q_getI (k := 48) (n := 4806) cx z_cl11 (j := 6) (by decide) tb_184 rfl (by decide) rfl rfl rfl dX11_count_41 ?_
    obtain ⟨rfl, rfl⟩ := g_some h
    exact z_ireturn cx ce rfl ⟨rfl, rfl⟩ dX11_count_44
  have h := g_f c1 h
  by_cases c2 : a0 = 1
  · have h := g_t c2 h
    refine z_tableIn (tgt := 45) (off := 44) cx (by rw [c2]; decide +kernel) (by rw [c2]; decide +kernel) (by rw [c2]; decide +kernel) (by decide) dX11_count_1 ?_
    refine z_aload_n cx rfl rfl dX11_count_45 ?_
    obtain ⟨v3, S4, e5, h⟩ := g_bd_ex h
    refine q_cvi (As := []) cx mo_X11_markedMany mv_X11_markedMany z_cl11 rfl tb_1244 (by decide) rfl (by decide) rfl rfl (Nat.le_of_ble_eq_true rfl) dX11_count_46 (c_X11_markedMany  _ e5) ?_
    obtain ⟨rfl, rfl⟩ := g_some h
    exact z_ireturn cx ce rfl ⟨rfl, rfl⟩ dX11_count_49
  have h := g_f c2 h
  by_cases c6 : a0 = 2
  · have h := g_t c6 h
    refine z_tableIn (tgt := 50) (off := 49) cx (by rw [c6]; decide +kernel) (by rw [c6]; decide +kernel) (by rw [c6]; decide +kernel) (by decide) dX11_count_1 ?_
    refine z_aload_n cx rfl rfl dX11_count_50 ?_
    refine q_getI (k := 48) (n := 4814) cx z_cl11 (j := 14) (by decide) tb_327 rfl (by decide) rfl rfl rfl dX11_count_51 ?_
    obtain ⟨rfl, rfl⟩ := g_some h
    exact z_ireturn cx ce rfl ⟨rfl, rfl⟩ dX11_count_54
  have h := g_f c6 h
  by_cases c7 : a0 = 3
  · have h := g_t c7 h
    refine z_tableIn (tgt := 55) (off := 54) cx (by rw [c7]; decide +kernel) (by rw [c7]; decide +kernel) (by rw [c7]; decide +kernel) (by decide) dX11_count_1 ?_
    refine z_aload_n cx rfl rfl dX11_count_55 ?_
    refine q_getI (k := 48) (n := 4805) cx z_cl11 (j := 5) (by decide) tb_294 rfl (by decide) rfl rfl rfl dX11_count_56 ?_
    obtain ⟨rfl, rfl⟩ := g_some h
    exact z_ireturn cx ce rfl ⟨rfl, rfl⟩ dX11_count_59
  have h := g_f c7 h
  by_cases c8 : a0 = 4
  · have h := g_t c8 h
    refine z_tableIn (tgt := 60) (off := 59) cx (by rw [c8]; decide +kernel) (by rw [c8]; decide +kernel) (by rw [c8]; decide +kernel) (by decide) dX11_count_1 ?_
    refine z_aload_n cx rfl rfl dX11_count_60 ?_
    refine q_getI (k := 48) (n := 4836) cx z_cl11 (j := 36) (by decide) tb_1063 rfl (by decide) rfl rfl rfl dX11_count_61 ?_
    obtain ⟨rfl, rfl⟩ := g_some h
    exact z_ireturn cx ce rfl ⟨rfl, rfl⟩ dX11_count_64
  have h := g_f c8 h
  by_cases c9 : a0 = 5
  · have h := g_t c9 h
    refine z_tableIn (tgt := 65) (off := 64) cx (by rw [c9]; decide +kernel) (by rw [c9]; decide +kernel) (by rw [c9]; decide +kernel) (by decide) dX11_count_1 ?_
    refine z_aload_n cx rfl rfl dX11_count_65 ?_
    refine q_getI (k := 48) (n := 4839) cx z_cl11 (j := 39) (by decide) tb_1098 rfl (by decide) rfl rfl rfl dX11_count_66 ?_
    obtain ⟨rfl, rfl⟩ := g_some h
    exact z_ireturn cx ce rfl ⟨rfl, rfl⟩ dX11_count_69
  have h := g_f c9 h
  refine q_tableD (tgt := 70) (lo := 0) (hi := 5) cx [0, 1, 2, 3, 4, 5] (by decide +kernel) (by intro a ha; simp only [List.mem_cons, List.not_mem_nil, or_false] at ha; rcases ha with rfl | rfl | rfl | rfl | rfl | rfl <;> assumption) (by decide) dX11_count_1 ?_
  refine z_iconst (v := (-1)) cx (by decide +kernel) dX11_count_70 ?_
  obtain ⟨rfl, rfl⟩ := g_some h
  exact z_ireturn cx ce rfl ⟨rfl, rfl⟩ dX11_count_71
theorem c_X11_count {g : z_G} {n : Nat} (a0 : Int32) (S : z_Stt) {v : Int32} {S' : z_Stt} (h : f_X11_count n a0 S = some (v, S')) : z_Ct g M_X11_count 2 [.ref (z_ad g 48), .int a0] (hp g S) (z_P g (some (.int v)) S') :=
  z_Ct.of (by decide +kernel) rfl (Nat.le_of_ble_eq_true rfl) (fun K cx ce => q_weak (L' := [some (.ref (z_ad g 48)), some (.int a0)]) (z_wk_s (z_wk_s (z_wk_0))) (t_X11_count n cx ce a0 S h))
