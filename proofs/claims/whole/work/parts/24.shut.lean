abbrev M_X10_within : z_M := (RX10, yX10_within, cX10_within, 2, some .boolean)
theorem mo_X10_within : z_mo M_X10_within 2 := ⟨tb_173, tb_2, rfl, ⟨by decide +kernel, by decide +kernel⟩, by decide +kernel, by decide⟩
theorem ms_X10_within : z_ms M_X10_within := tb_172
def f_X10_within (a0 : Int32) (a1 : Int32) (S : z_Stt) : Option (Bool × z_Stt) :=
  if a0 < 0 then
    some (false, S)
  else
    if a1 < a0 then
      some (false, S)
    else
      some (true, S)
set_option maxHeartbeats 4000000 in
set_option maxRecDepth 100000 in
theorem t_X10_within {g : z_G} {K : z_K} {v : Bool} {S' : z_Stt} (cx : z_C g M_X10_within 0 K) (ce : z_E' g M_X10_within (z_P g (some (.int (bI v))) S') K) (a0 : Int32) (a1 : Int32) (S : z_Stt) (h : f_X10_within a0 a1 S = some (v, S')) : z_At g M_X10_within K 0 [some (.int a0), some (.int a1)] [] (hp g S) := by
  unfold f_X10_within at h
  refine z_iload_n cx rfl rfl dX10_within_0 ?_
  refine z_if_lt (tgt := 13) cx (by decide) dX10_within_1 (fun c1 => ?_) (fun c1 => ?_)
  · have h := g_t c1 h
    refine z_iconst (v := 0) cx (by decide +kernel) dX10_within_13 ?_
    obtain ⟨rfl, rfl⟩ := g_some h
    exact z_zreturn cx ce rfl (by decide +kernel) ⟨rfl, rfl⟩ dX10_within_14
  · have h := g_f c1 h
    refine z_iload_n cx rfl rfl dX10_within_4 ?_
    refine z_iload_n cx rfl rfl dX10_within_5 ?_
    refine z_icmp_gt (tgt := 13) cx (by decide) dX10_within_6 (fun c2 => ?_) (fun c2 => ?_)
    · have h := g_t c2 h
      refine z_iconst (v := 0) cx (by decide +kernel) dX10_within_13 ?_
      obtain ⟨rfl, rfl⟩ := g_some h
      exact z_zreturn cx ce rfl (by decide +kernel) ⟨rfl, rfl⟩ dX10_within_14
    · have h := g_f c2 h
      refine z_iconst (v := 1) cx (by decide +kernel) dX10_within_9 ?_
      refine z_goto (tgt := 14) cx (by decide) dX10_within_10 ?_
      obtain ⟨rfl, rfl⟩ := g_some h
      exact z_zreturn cx ce rfl (by decide +kernel) ⟨rfl, rfl⟩ dX10_within_14
theorem c_X10_within {g : z_G} (a0 : Int32) (a1 : Int32) (S : z_Stt) {v : Bool} {S' : z_Stt} (h : f_X10_within a0 a1 S = some (v, S')) : z_Ct g M_X10_within 0 [.int a0, .int a1] (hp g S) (z_P g (some (.int (bI v))) S') :=
  z_Ct.of (by decide +kernel) rfl (Nat.le_of_ble_eq_true rfl) (fun K cx ce => q_weak (L' := [some (.int a0), some (.int a1)]) (z_wk_s (z_wk_s (z_wk_0))) (t_X10_within cx ce a0 a1 S h))
abbrev M_X10_thing : z_M := (RX10, yX10_thing, cX10_thing, 3, some .int)
theorem mo_X10_thing : z_mo M_X10_thing 2 := ⟨tb_168, tb_2, rfl, ⟨by decide +kernel, by decide +kernel⟩, by decide +kernel, by decide⟩
theorem mv_X10_thing : z_mv M_X10_thing := ⟨tb_166, tb_167⟩
def f_X10_thing (a0 : Int32) (a1 : Int32) (S : z_Stt) : Option (Int32 × z_Stt) :=
  if ¬ ((0 : Int32) < 0 ∨ 10 ≤ (0 : Int32).toNatClampNeg) then
    g_bd (f_X10_within a0 (st_MOST (0 : Int32).toNatClampNeg) S) fun v2 S3 =>
    if v2 = true then
      if ¬ ((3 : Int32) < 0 ∨ 10 ≤ (3 : Int32).toNatClampNeg) then
        g_bd (f_X10_within a1 (st_MOST (3 : Int32).toNatClampNeg) S3) fun v7 S8 =>
        if v7 = true then
          if S8.1 101 < 6 then
            g_bd (f_X9_come a0 10 3 a1 S8) fun v12 S13 =>
            some (v12, S13)
          else
            some ((-3), S8)
        else
          some ((-1), S8)
      else none
    else
      some ((-1), S3)
  else none
set_option maxHeartbeats 4000000 in
set_option maxRecDepth 100000 in
theorem t_X10_thing {g : z_G} {K : z_K} {v : Int32} {S' : z_Stt} (cx : z_C g M_X10_thing 1 K) (ce : z_E' g M_X10_thing (z_P g (some (.int v)) S') K) (a0 : Int32) (a1 : Int32) (S : z_Stt) (h : f_X10_thing a0 a1 S = some (v, S')) : z_At g M_X10_thing K 0 [some (.ref (z_ad g 0)), some (.int a0), some (.int a1)] [] (hp g S) := by
  unfold f_X10_thing at h
  refine z_iload_n cx rfl rfl dX10_thing_0 ?_
  refine z_gets0 cx tb_169 dX10_thing_1 ?_
  refine z_iconst (v := 0) cx (by decide +kernel) dX10_thing_4 ?_
  obtain ⟨c1, h⟩ := g_if h
  refine z_ti0 cx c1 dX10_thing_5 ?_
  obtain ⟨v2, S3, e4, h⟩ := g_bd_ex h
  refine q_csi (As := [.int a0, .int (st_MOST (0 : Int32).toNatClampNeg)]) cx mo_X10_within ms_X10_within tb_171 (by decide) rfl rfl (Nat.le_of_ble_eq_true rfl) dX10_thing_6 (c_X10_within a0 (st_MOST (0 : Int32).toNatClampNeg) _ e4) ?_
  refine q_ifb_eq (tgt := 24) cx (by decide) dX10_thing_9 (fun c5 => ?_) (fun c5 => ?_)
  · have h := g_f (Bool.eq_false_iff.mp c5) h
    refine z_iconst (v := (-1)) cx (by decide +kernel) dX10_thing_24 ?_
    obtain ⟨rfl, rfl⟩ := g_some h
    exact z_ireturn cx ce rfl ⟨rfl, rfl⟩ dX10_thing_25
  · have h := g_t c5 h
    refine z_iload_n cx rfl rfl dX10_thing_12 ?_
    refine z_gets0 cx tb_169 dX10_thing_13 ?_
    refine z_iconst (v := 3) cx (by decide +kernel) dX10_thing_16 ?_
    obtain ⟨c6, h⟩ := g_if h
    refine z_ti0 cx c6 dX10_thing_17 ?_
    obtain ⟨v7, S8, e9, h⟩ := g_bd_ex h
    refine q_csi (As := [.int a1, .int (st_MOST (3 : Int32).toNatClampNeg)]) cx mo_X10_within ms_X10_within tb_171 (by decide) rfl rfl (Nat.le_of_ble_eq_true rfl) dX10_thing_18 (c_X10_within a1 (st_MOST (3 : Int32).toNatClampNeg) _ e9) ?_
    refine q_ifb_ne (tgt := 26) cx (by decide) dX10_thing_21 (fun c10 => ?_) (fun c10 => ?_)
    · have h := g_t c10 h
      refine z_aload_n cx rfl rfl dX10_thing_26 ?_
      refine q_getF (k := 0) (n := 1) (r := 1) cx z_cl10 (j := 0) (by decide) tb_16 rfl (by decide) rfl rfl rfl dX10_thing_27 ?_
      refine q_getI (k := 1) (n := 101) cx z_cl9 (j := 1) (by decide) tb_170 rfl (by decide) rfl rfl rfl dX10_thing_30 ?_
      refine z_bipush (v := 6) cx (by decide +kernel) dX10_thing_33 ?_
      refine z_icmp_lt (tgt := 41) cx (by decide) dX10_thing_35 (fun c11 => ?_) (fun c11 => ?_)
      · have h := g_t c11 h
        refine z_aload_n cx rfl rfl dX10_thing_41 ?_
        refine q_getF (k := 0) (n := 1) (r := 1) cx z_cl10 (j := 0) (by decide) tb_16 rfl (by decide) rfl rfl rfl dX10_thing_42 ?_
        refine z_iload_n cx rfl rfl dX10_thing_45 ?_
        refine z_bipush (v := 10) cx (by decide +kernel) dX10_thing_46 ?_
        refine z_iconst (v := 3) cx (by decide +kernel) dX10_thing_48 ?_
        refine z_iload_n cx rfl rfl dX10_thing_49 ?_
        obtain ⟨v12, S13, e14, h⟩ := g_bd_ex h
        refine q_cvi (As := [.int a0, .int 10, .int 3, .int a1]) cx mo_X9_come mv_X9_come z_cl9 rfl tb_174 (by decide) rfl (by decide) rfl rfl (Nat.le_of_ble_eq_true rfl) dX10_thing_50 (c_X9_come a0 10 3 a1 _ e14) ?_
        obtain ⟨rfl, rfl⟩ := g_some h
        exact z_ireturn cx ce rfl ⟨rfl, rfl⟩ dX10_thing_53
      · have h := g_f c11 h
        refine z_bipush (v := (-3)) cx (by decide +kernel) dX10_thing_38 ?_
        obtain ⟨rfl, rfl⟩ := g_some h
        exact z_ireturn cx ce rfl ⟨rfl, rfl⟩ dX10_thing_40
    · have h := g_f (Bool.eq_false_iff.mp c10) h
      refine z_iconst (v := (-1)) cx (by decide +kernel) dX10_thing_24 ?_
      obtain ⟨rfl, rfl⟩ := g_some h
      exact z_ireturn cx ce rfl ⟨rfl, rfl⟩ dX10_thing_25
theorem c_X10_thing {g : z_G} (a0 : Int32) (a1 : Int32) (S : z_Stt) {v : Int32} {S' : z_Stt} (h : f_X10_thing a0 a1 S = some (v, S')) : z_Ct g M_X10_thing 1 [.ref (z_ad g 0), .int a0, .int a1] (hp g S) (z_P g (some (.int v)) S') :=
  z_Ct.of (by decide +kernel) rfl (Nat.le_of_ble_eq_true rfl) (fun K cx ce => q_weak (L' := [some (.ref (z_ad g 0)), some (.int a0), some (.int a1)]) (z_wk_s (z_wk_s (z_wk_s (z_wk_0)))) (t_X10_thing cx ce a0 a1 S h))
abbrev M_X10_isShelf : z_M := (RX10, yX10_isShelf, cX10_isShelf, 1, some .boolean)
theorem mo_X10_isShelf : z_mo M_X10_isShelf 1 := ⟨tb_200, tb_2, rfl, ⟨by decide +kernel, by decide +kernel⟩, by decide +kernel, by decide⟩
theorem ms_X10_isShelf : z_ms M_X10_isShelf := tb_199
def f_X10_isShelf (a0 : Int32) (S : z_Stt) : Option (Bool × z_Stt) :=
  g_bd (f_X10_within a0 5 S) fun v1 S2 =>
  some (v1, S2)
set_option maxHeartbeats 4000000 in
set_option maxRecDepth 100000 in
theorem t_X10_isShelf {g : z_G} {K : z_K} {v : Bool} {S' : z_Stt} (cx : z_C g M_X10_isShelf 1 K) (ce : z_E' g M_X10_isShelf (z_P g (some (.int (bI v))) S') K) (a0 : Int32) (S : z_Stt) (h : f_X10_isShelf a0 S = some (v, S')) : z_At g M_X10_isShelf K 0 [some (.int a0)] [] (hp g S) := by
  unfold f_X10_isShelf at h
  refine z_iload_n cx rfl rfl dX10_isShelf_0 ?_
  refine z_iconst (v := 5) cx (by decide +kernel) dX10_isShelf_1 ?_
  obtain ⟨v1, S2, e3, h⟩ := g_bd_ex h
  refine q_csi (As := [.int a0, .int 5]) cx mo_X10_within ms_X10_within tb_171 (by decide) rfl rfl (Nat.le_of_ble_eq_true rfl) dX10_isShelf_2 (c_X10_within a0 5 _ e3) ?_
  obtain ⟨rfl, rfl⟩ := g_some h
  exact z_zreturn cx ce rfl (bI_nar _) ⟨rfl, rfl⟩ dX10_isShelf_5
theorem c_X10_isShelf {g : z_G} (a0 : Int32) (S : z_Stt) {v : Bool} {S' : z_Stt} (h : f_X10_isShelf a0 S = some (v, S')) : z_Ct g M_X10_isShelf 1 [.int a0] (hp g S) (z_P g (some (.int (bI v))) S') :=
  z_Ct.of (by decide +kernel) rfl (Nat.le_of_ble_eq_true rfl) (fun K cx ce => q_weak (L' := [some (.int a0)]) (z_wk_s (z_wk_0)) (t_X10_isShelf cx ce a0 S h))
abbrev M_X10_comesFrom : z_M := (RX10, yX10_comesFrom, cX10_comesFrom, 7, some .boolean)
theorem mo_X10_comesFrom : z_mo M_X10_comesFrom 2 := ⟨tb_208, tb_2, rfl, ⟨by decide +kernel, by decide +kernel⟩, by decide +kernel, by decide⟩
theorem mv_X10_comesFrom : z_mv M_X10_comesFrom := ⟨tb_206, tb_207⟩
def f_X10_comesFrom (a0 : Nat) (a1 : Int64) (S : z_Stt) : Option (Bool × z_Stt) :=
  if 6 ≤ S.1 101 then
    some (false, S)
  else
    if lg_cmp a1 0 < 0 then
      some (false, S)
    else
      if lg_cmp (a1 + 2) (Int32.toInt64 (S.1 (100 * a0 + 3))) < 0 then
        g_bd (f_X8_at a0 (Int64.toInt32 a1) S) fun v4 S5 =>
        g_bd (f_X8_at a0 ((Int64.toInt32 a1) + 1) S5) fun v7 S8 =>
        g_bd (f_X8_at a0 ((Int64.toInt32 a1) + 2) S8) fun v10 S11 =>
        g_bd (f_X10_within (Int64.toInt32 v4) 127 S11) fun v13 S14 =>
        if v13 = true then
          g_bd (f_X10_within (Int64.toInt32 v7) 12 S14) fun v17 S18 =>
          if v17 = true then
            g_bd (f_X10_within (Int64.toInt32 v10) 12 S18) fun v21 S22 =>
            if v21 = true then
              g_bd (f_X9_come (Int64.toInt32 v4) (Int64.toInt32 v7) (Int64.toInt32 v10) 100 S22) fun v25 S26 =>
              some (true, S26)
            else
              some (false, S22)
          else
            some (false, S18)
        else
          some (false, S14)
      else
        some (false, S)
set_option maxHeartbeats 4000000 in
set_option maxRecDepth 100000 in
theorem t_X10_comesFrom {g : z_G} {K : z_K} {v : Bool} {S' : z_Stt} (cx : z_C g M_X10_comesFrom 1 K) (ce : z_E' g M_X10_comesFrom (z_P g (some (.int (bI v))) S') K) (a0 : Nat) (a1 : Int64) (S : z_Stt) (wa0 : wp8 a0) (h : f_X10_comesFrom a0 a1 S = some (v, S')) : z_At g M_X10_comesFrom K 0 [some (.ref (z_ad g 0)), some (.ref (z_ad g a0)), some (.long a1), none, none, none, none] [] (hp g S) := by
  unfold f_X10_comesFrom at h
  refine z_aload_n cx rfl rfl dX10_comesFrom_0 ?_
  refine q_getF (k := 0) (n := 1) (r := 1) cx z_cl10 (j := 0) (by decide) tb_16 rfl (by decide) rfl rfl rfl dX10_comesFrom_1 ?_
  refine q_getI (k := 1) (n := 101) cx z_cl9 (j := 1) (by decide) tb_170 rfl (by decide) rfl rfl rfl dX10_comesFrom_4 ?_
  refine z_bipush (v := 6) cx (by decide +kernel) dX10_comesFrom_7 ?_
  refine z_icmp_ge (tgt := 32) cx (by decide) dX10_comesFrom_9 (fun c1 => ?_) (fun c1 => ?_)
  · have h := g_t c1 h
    refine z_iconst (v := 0) cx (by decide +kernel) dX10_comesFrom_32 ?_
    obtain ⟨rfl, rfl⟩ := g_some h
    exact z_zreturn cx ce rfl (by decide +kernel) ⟨rfl, rfl⟩ dX10_comesFrom_33
  · have h := g_f c1 h
    refine z_lload_n cx rfl rfl dX10_comesFrom_12 ?_
    refine z_lconst (v := 0) cx (by decide +kernel) dX10_comesFrom_13 ?_
    refine z_lcmp cx dX10_comesFrom_14 ?_
    refine z_if_lt (tgt := 32) cx (by decide) dX10_comesFrom_15 (fun c2 => ?_) (fun c2 => ?_)
    · have h := g_t c2 h
      refine z_iconst (v := 0) cx (by decide +kernel) dX10_comesFrom_32 ?_
      obtain ⟨rfl, rfl⟩ := g_some h
      exact z_zreturn cx ce rfl (by decide +kernel) ⟨rfl, rfl⟩ dX10_comesFrom_33
    · have h := g_f c2 h
      refine z_lload_n cx rfl rfl dX10_comesFrom_18 ?_
      refine z_ldc2 cx tb_209 dX10_comesFrom_19 ?_
      refine z_ladd cx dX10_comesFrom_22 ?_
      refine z_aload_n cx rfl rfl dX10_comesFrom_23 ?_
      refine q_getI (k := a0) (n := 100 * a0 + 3) cx z_cl8 (j := 3) (by decide) tb_210 rfl wa0.1 wa0.2.1 rfl rfl dX10_comesFrom_24 ?_
      refine z_i2l cx dX10_comesFrom_27 ?_
      refine z_lcmp cx dX10_comesFrom_28 ?_
      refine z_if_lt (tgt := 34) cx (by decide) dX10_comesFrom_29 (fun c3 => ?_) (fun c3 => ?_)
      · have h := g_t c3 h
        refine z_aload_n cx rfl rfl dX10_comesFrom_34 ?_
        refine z_lload_n cx rfl rfl dX10_comesFrom_35 ?_
        refine z_l2i cx dX10_comesFrom_36 ?_
        obtain ⟨v4, S5, e6, h⟩ := g_bd_ex h
        refine q_cvl (As := [.int (Int64.toInt32 a1)]) cx mo_X8_at mv_X8_at z_cl8 rfl tb_211 (by decide) rfl wa0.1 wa0.2.1 rfl (Nat.le_of_ble_eq_true rfl) dX10_comesFrom_37 (c_X8_at a0 (Int64.toInt32 a1) _ wa0 e6) ?_
        refine z_l2i cx dX10_comesFrom_40 ?_
        refine z_istore (L' := [some (.ref (z_ad g 0)), some (.ref (z_ad g a0)), some (.long a1), none, some (.int (Int64.toInt32 v4)), none, none]) cx (by decide) rfl dX10_comesFrom_41 ?_
        refine z_aload_n cx rfl rfl dX10_comesFrom_43 ?_
        refine z_lload_n cx rfl rfl dX10_comesFrom_44 ?_
        refine z_l2i cx dX10_comesFrom_45 ?_
        refine z_iconst (v := 1) cx (by decide +kernel) dX10_comesFrom_46 ?_
        refine z_iadd cx dX10_comesFrom_47 ?_
        obtain ⟨v7, S8, e9, h⟩ := g_bd_ex h
        refine q_cvl (As := [.int ((Int64.toInt32 a1) + 1)]) cx mo_X8_at mv_X8_at z_cl8 rfl tb_211 (by decide) rfl wa0.1 wa0.2.1 rfl (Nat.le_of_ble_eq_true rfl) dX10_comesFrom_48 (c_X8_at a0 ((Int64.toInt32 a1) + 1) _ wa0 e9) ?_
        refine z_l2i cx dX10_comesFrom_51 ?_
        refine z_istore (L' := [some (.ref (z_ad g 0)), some (.ref (z_ad g a0)), some (.long a1), none, some (.int (Int64.toInt32 v4)), some (.int (Int64.toInt32 v7)), none]) cx (by decide) rfl dX10_comesFrom_52 ?_
        refine z_aload_n cx rfl rfl dX10_comesFrom_54 ?_
        refine z_lload_n cx rfl rfl dX10_comesFrom_55 ?_
        refine z_l2i cx dX10_comesFrom_56 ?_
        refine z_iconst (v := 2) cx (by decide +kernel) dX10_comesFrom_57 ?_
        refine z_iadd cx dX10_comesFrom_58 ?_
        obtain ⟨v10, S11, e12, h⟩ := g_bd_ex h
        refine q_cvl (As := [.int ((Int64.toInt32 a1) + 2)]) cx mo_X8_at mv_X8_at z_cl8 rfl tb_211 (by decide) rfl wa0.1 wa0.2.1 rfl (Nat.le_of_ble_eq_true rfl) dX10_comesFrom_59 (c_X8_at a0 ((Int64.toInt32 a1) + 2) _ wa0 e12) ?_
        refine z_l2i cx dX10_comesFrom_62 ?_
        refine z_istore (L' := [some (.ref (z_ad g 0)), some (.ref (z_ad g a0)), some (.long a1), none, some (.int (Int64.toInt32 v4)), some (.int (Int64.toInt32 v7)), some (.int (Int64.toInt32 v10))]) cx (by decide) rfl dX10_comesFrom_63 ?_
        refine z_iload cx rfl dX10_comesFrom_65 ?_
        refine z_bipush (v := 127) cx (by decide +kernel) dX10_comesFrom_67 ?_
        obtain ⟨v13, S14, e15, h⟩ := g_bd_ex h
        refine q_csi (As := [.int (Int64.toInt32 v4), .int 127]) cx mo_X10_within ms_X10_within tb_171 (by decide) rfl rfl (Nat.le_of_ble_eq_true rfl) dX10_comesFrom_69 (c_X10_within (Int64.toInt32 v4) 127 _ e15) ?_
        refine q_ifb_eq (tgt := 95) cx (by decide) dX10_comesFrom_72 (fun c16 => ?_) (fun c16 => ?_)
        · have h := g_f (Bool.eq_false_iff.mp c16) h
          refine z_iconst (v := 0) cx (by decide +kernel) dX10_comesFrom_95 ?_
          obtain ⟨rfl, rfl⟩ := g_some h
          exact z_zreturn cx ce rfl (by decide +kernel) ⟨rfl, rfl⟩ dX10_comesFrom_96
        · have h := g_t c16 h
          refine z_iload cx rfl dX10_comesFrom_75 ?_
          refine z_bipush (v := 12) cx (by decide +kernel) dX10_comesFrom_77 ?_
          obtain ⟨v17, S18, e19, h⟩ := g_bd_ex h
          refine q_csi (As := [.int (Int64.toInt32 v7), .int 12]) cx mo_X10_within ms_X10_within tb_171 (by decide) rfl rfl (Nat.le_of_ble_eq_true rfl) dX10_comesFrom_79 (c_X10_within (Int64.toInt32 v7) 12 _ e19) ?_
          refine q_ifb_eq (tgt := 95) cx (by decide) dX10_comesFrom_82 (fun c20 => ?_) (fun c20 => ?_)
          · have h := g_f (Bool.eq_false_iff.mp c20) h
            refine z_iconst (v := 0) cx (by decide +kernel) dX10_comesFrom_95 ?_
            obtain ⟨rfl, rfl⟩ := g_some h
            exact z_zreturn cx ce rfl (by decide +kernel) ⟨rfl, rfl⟩ dX10_comesFrom_96
          · have h := g_t c20 h
            refine z_iload cx rfl dX10_comesFrom_85 ?_
            refine z_bipush (v := 12) cx (by decide +kernel) dX10_comesFrom_87 ?_
            obtain ⟨v21, S22, e23, h⟩ := g_bd_ex h
            refine q_csi (As := [.int (Int64.toInt32 v10), .int 12]) cx mo_X10_within ms_X10_within tb_171 (by decide) rfl rfl (Nat.le_of_ble_eq_true rfl) dX10_comesFrom_89 (c_X10_within (Int64.toInt32 v10) 12 _ e23) ?_
            refine q_ifb_ne (tgt := 97) cx (by decide) dX10_comesFrom_92 (fun c24 => ?_) (fun c24 => ?_)
            · have h := g_t c24 h
              refine z_aload_n cx rfl rfl dX10_comesFrom_97 ?_
              refine q_getF (k := 0) (n := 1) (r := 1) cx z_cl10 (j := 0) (by decide) tb_16 rfl (by decide) rfl rfl rfl dX10_comesFrom_98 ?_
              refine z_iload cx rfl dX10_comesFrom_101 ?_
              refine z_iload cx rfl dX10_comesFrom_103 ?_
              refine z_iload cx rfl dX10_comesFrom_105 ?_
              refine z_bipush (v := 100) cx (by decide +kernel) dX10_comesFrom_107 ?_
              obtain ⟨v25, S26, e27, h⟩ := g_bd_ex h
              refine q_cvi (As := [.int (Int64.toInt32 v4), .int (Int64.toInt32 v7), .int (Int64.toInt32 v10), .int 100]) cx mo_X9_come mv_X9_come z_cl9 rfl tb_174 (by decide) rfl (by decide) rfl rfl (Nat.le_of_ble_eq_true rfl) dX10_comesFrom_109 (c_X9_come (Int64.toInt32 v4) (Int64.toInt32 v7) (Int64.toInt32 v10) 100 _ e27) ?_
              refine z_pop cx rfl dX10_comesFrom_112 ?_
              refine z_iconst (v := 1) cx (by decide +kernel) dX10_comesFrom_113 ?_
              obtain ⟨rfl, rfl⟩ := g_some h
              exact z_zreturn cx ce rfl (by decide +kernel) ⟨rfl, rfl⟩ dX10_comesFrom_114
            · have h := g_f (Bool.eq_false_iff.mp c24) h
              refine z_iconst (v := 0) cx (by decide +kernel) dX10_comesFrom_95 ?_
              obtain ⟨rfl, rfl⟩ := g_some h
              exact z_zreturn cx ce rfl (by decide +kernel) ⟨rfl, rfl⟩ dX10_comesFrom_96
      · have h := g_f c3 h
        refine z_iconst (v := 0) cx (by decide +kernel) dX10_comesFrom_32 ?_
        obtain ⟨rfl, rfl⟩ := g_some h
        exact z_zreturn cx ce rfl (by decide +kernel) ⟨rfl, rfl⟩ dX10_comesFrom_33
theorem c_X10_comesFrom {g : z_G} (a0 : Nat) (a1 : Int64) (S : z_Stt) {v : Bool} {S' : z_Stt} (wa0 : wp8 a0) (h : f_X10_comesFrom a0 a1 S = some (v, S')) : z_Ct g M_X10_comesFrom 1 [.ref (z_ad g 0), .ref (z_ad g a0), .long a1] (hp g S) (z_P g (some (.int (bI v))) S') :=
  z_Ct.of (by decide +kernel) rfl (Nat.le_of_ble_eq_true rfl) (fun K cx ce => q_weak (L' := [some (.ref (z_ad g 0)), some (.ref (z_ad g a0)), some (.long a1), none, none, none, none]) (z_wk_s (z_wk_s (z_wk_s (z_wk_n (z_wk_e (z_wk_e (z_wk_e (z_wk_0)))))))) (t_X10_comesFrom cx ce a0 a1 S wa0 h))
abbrev M_X10_things : z_M := (RX10, yX10_things, cX10_things, 6, some .int)
theorem mo_X10_things : z_mo M_X10_things 3 := ⟨tb_195, tb_2, rfl, ⟨by decide +kernel, by decide +kernel⟩, by decide +kernel, by decide⟩
theorem mv_X10_things : z_mv M_X10_things := ⟨tb_193, tb_194⟩
def f_X10_things_53 (n : Nat) : Nat → Int32 → Int32 → Nat → Int32 → z_Stt → Option (Int32 × z_Stt)
  | 0, _, _, _, _, _ => none
  | m + 1, x2, x3, x4, x5, S =>
    if x3 ≤ x5 then
      some (x5, S)
    else
      g_bd (f_X10_comesFrom x4 ((Int32.toInt64 x2) + (3 * (Int32.toInt64 x5))) S) fun v2 S3 =>
      if v2 = true then
        f_X10_things_53 n m x2 x3 x4 (x5 + 1) S3
      else
        some (x5, S3)
set_option maxHeartbeats 4000000 in
set_option maxRecDepth 100000 in
theorem t_X10_things_53 {g : z_G} {K : z_K} (n : Nat) {v : Int32} {S' : z_Stt} (cx : z_C g M_X10_things 2 K) (ce : z_E' g M_X10_things (z_P g (some (.int v)) S') K) : ∀ (m : Nat) (x2 : Int32) (x3 : Int32) (x4 : Nat) (x5 : Int32) (S : z_Stt) (wx4 : wp8 x4) (h : f_X10_things_53 n m x2 x3 x4 x5 S = some (v, S')), z_At g M_X10_things K 53 [some (.ref (z_ad g 0)), none, some (.int x2), some (.int x3), some (.ref (z_ad g x4)), some (.int x5)] [] (hp g S) := by
  intro m
  induction m with
  | zero => intro x2 x3 x4 x5 S wx4 h; simp [f_X10_things_53] at h
  | succ m ih =>
    intro x2 x3 x4 x5 S wx4 h
    rw [f_X10_things_53] at h
    refine z_iload cx rfl dX10_things_53 ?_
    refine z_iload_n cx rfl rfl dX10_things_55 ?_
    refine z_icmp_ge (tgt := 84) cx (by decide) dX10_things_56 (fun c1 => ?_) (fun c1 => ?_)
    · have h := g_t c1 h
      refine z_iload cx rfl dX10_things_84 ?_
      obtain ⟨rfl, rfl⟩ := g_some h
      exact z_ireturn cx ce rfl ⟨rfl, rfl⟩ dX10_things_86
    · have h := g_f c1 h
      refine z_aload_n cx rfl rfl dX10_things_59 ?_
      refine z_aload cx rfl dX10_things_60 ?_
      refine z_iload_n cx rfl rfl dX10_things_62 ?_
      refine z_i2l cx dX10_things_63 ?_
      refine z_ldc2 cx tb_197 dX10_things_64 ?_
      refine z_iload cx rfl dX10_things_67 ?_
      refine z_i2l cx dX10_things_69 ?_
      refine z_lmul cx dX10_things_70 ?_
      refine z_ladd cx dX10_things_71 ?_
      obtain ⟨v2, S3, e4, h⟩ := g_bd_ex h
      refine q_cvi (As := [.ref (z_ad g x4), .long ((Int32.toInt64 x2) + (3 * (Int32.toInt64 x5)))]) cx mo_X10_comesFrom mv_X10_comesFrom z_cl10 rfl tb_205 (by decide) rfl (by decide) rfl rfl (Nat.le_of_ble_eq_true rfl) dX10_things_72 (c_X10_comesFrom x4 ((Int32.toInt64 x2) + (3 * (Int32.toInt64 x5))) _ wx4 e4) ?_
      refine q_ifb_eq (tgt := 84) cx (by decide) dX10_things_75 (fun c5 => ?_) (fun c5 => ?_)
      · have h := g_f (Bool.eq_false_iff.mp c5) h
        refine z_iload cx rfl dX10_things_84 ?_
        obtain ⟨rfl, rfl⟩ := g_some h
        exact z_ireturn cx ce rfl ⟨rfl, rfl⟩ dX10_things_86
      · have h := g_t c5 h
        refine z_iinc (c := 1) (L' := [some (.ref (z_ad g 0)), none, some (.int x2), some (.int x3), some (.ref (z_ad g x4)), some (.int (x5 + 1))]) cx rfl (by decide +kernel) (by decide) rfl dX10_things_78 ?_
        refine z_goto (tgt := 53) cx (by decide) dX10_things_81 ?_
        exact q_weak (z_wk_s (z_wk_n (z_wk_s (z_wk_s (z_wk_s (z_wk_s (z_wk_0))))))) (ih x2 x3 x4 (x5 + 1) S3 wx4 h)
def f_X10_things (n : Nat) (a0 : Int32) (a1 : Int32) (a2 : Int32) (S : z_Stt) : Option (Int32 × z_Stt) :=
  g_bd (f_X10_isShelf a0 S) fun v1 S2 =>
  if v1 = true then
    if a2 < 1 then
      some ((-1), S2)
    else
      if a2 ≤ 6 then
        if ¬ (a0 < 0 ∨ 6 ≤ a0.toNatClampNeg) then
          if S2.1 (100 * (36 + 2 * a0.toNatClampNeg) + 0) = 0 then
            some (0, S2)
          else
            g_bd (f_X8_isRow (36 + 2 * a0.toNatClampNeg) 0 S2) fun v9 S10 =>
            if v9 = true then
              f_X10_things_53 n n a1 a2 (36 + 2 * a0.toNatClampNeg) 0 S10
            else
              some ((-12), S10)
        else none
      else
        some ((-1), S2)
  else
    some ((-1), S2)
set_option maxHeartbeats 4000000 in
set_option maxRecDepth 100000 in
theorem t_X10_things {g : z_G} {K : z_K} (n : Nat) {v : Int32} {S' : z_Stt} (cx : z_C g M_X10_things 2 K) (ce : z_E' g M_X10_things (z_P g (some (.int v)) S') K) (a0 : Int32) (a1 : Int32) (a2 : Int32) (S : z_Stt) (h : f_X10_things n a0 a1 a2 S = some (v, S')) : z_At g M_X10_things K 0 [some (.ref (z_ad g 0)), some (.int a0), some (.int a1), some (.int a2), none, none] [] (hp g S) := by
  unfold f_X10_things at h
  refine z_iload_n cx rfl rfl dX10_things_0 ?_
  obtain ⟨v1, S2, e3, h⟩ := g_bd_ex h
  refine q_csi (As := [.int a0]) cx mo_X10_isShelf ms_X10_isShelf tb_198 (by decide) rfl rfl (Nat.le_of_ble_eq_true rfl) dX10_things_1 (c_X10_isShelf a0 _ e3) ?_
  refine q_ifb_eq (tgt := 18) cx (by decide) dX10_things_4 (fun c4 => ?_) (fun c4 => ?_)
  · have h := g_f (Bool.eq_false_iff.mp c4) h
    refine z_iconst (v := (-1)) cx (by decide +kernel) dX10_things_18 ?_
    obtain ⟨rfl, rfl⟩ := g_some h
    exact z_ireturn cx ce rfl ⟨rfl, rfl⟩ dX10_things_19
  · have h := g_t c4 h
    refine z_iload_n cx rfl rfl dX10_things_7 ?_
    refine z_iconst (v := 1) cx (by decide +kernel) dX10_things_8 ?_
    refine z_icmp_lt (tgt := 18) cx (by decide) dX10_things_9 (fun c5 => ?_) (fun c5 => ?_)
    · have h := g_t c5 h
      refine z_iconst (v := (-1)) cx (by decide +kernel) dX10_things_18 ?_
      obtain ⟨rfl, rfl⟩ := g_some h
      exact z_ireturn cx ce rfl ⟨rfl, rfl⟩ dX10_things_19
    · have h := g_f c5 h
      refine z_iload_n cx rfl rfl dX10_things_12 ?_
      refine z_bipush (v := 6) cx (by decide +kernel) dX10_things_13 ?_
      refine z_icmp_le (tgt := 20) cx (by decide) dX10_things_15 (fun c6 => ?_) (fun c6 => ?_)
      · have h := g_t c6 h
        refine z_aload_n cx rfl rfl dX10_things_20 ?_
        refine q_getF (k := 0) (n := 35) (r := 35) cx z_cl10 (j := 11) (by decide) tb_52 rfl (by decide) rfl rfl rfl dX10_things_21 ?_
        refine z_iload_n cx rfl rfl dX10_things_24 ?_
        obtain ⟨c7, h⟩ := g_if h
        refine q_aald_S cx (by decide) rfl c7 dX10_things_25 ?_
        refine z_astore (L' := [some (.ref (z_ad g 0)), some (.int a0), some (.int a1), some (.int a2), some (.ref (z_ad g (36 + 2 * a0.toNatClampNeg))), none]) cx (by decide) rfl dX10_things_26 ?_
        refine z_aload cx rfl dX10_things_28 ?_
        refine q_getI (k := 36 + 2 * a0.toNatClampNeg) (n := 100 * (36 + 2 * a0.toNatClampNeg) + 0) cx z_cl8 (j := 0) (by decide) tb_196 rfl (wp8_of c7).1 (wp8_of c7).2.1 rfl rfl dX10_things_30 ?_
        refine z_if_ne (tgt := 38) cx (by decide) dX10_things_33 (fun c8 => ?_) (fun c8 => ?_)
        · have h := g_f c8 h
          refine z_aload cx rfl dX10_things_38 ?_
          refine z_iconst (v := 0) cx (by decide +kernel) dX10_things_40 ?_
          obtain ⟨v9, S10, e11, h⟩ := g_bd_ex h
          refine q_cvi (As := [.int 0]) cx mo_X8_isRow mv_X8_isRow z_cl8 rfl tb_201 (by decide) rfl (wp8_of c7).1 (wp8_of c7).2.1 rfl (Nat.le_of_ble_eq_true rfl) dX10_things_41 (c_X8_isRow (36 + 2 * a0.toNatClampNeg) 0 _ (wp8_of c7) e11) ?_
          refine q_ifb_ne (tgt := 50) cx (by decide) dX10_things_44 (fun c12 => ?_) (fun c12 => ?_)
          · have h := g_t c12 h
            refine z_iconst (v := 0) cx (by decide +kernel) dX10_things_50 ?_
            refine z_istore (L' := [some (.ref (z_ad g 0)), some (.int a0), some (.int a1), some (.int a2), some (.ref (z_ad g (36 + 2 * a0.toNatClampNeg))), some (.int 0)]) cx (by decide) rfl dX10_things_51 ?_
            exact q_weak (z_wk_s (z_wk_n (z_wk_s (z_wk_s (z_wk_s (z_wk_s (z_wk_0))))))) (t_X10_things_53 n cx ce n a1 a2 (36 + 2 * a0.toNatClampNeg) 0 S10 (wp8_of c7) h)
          · have h := g_f (Bool.eq_false_iff.mp c12) h
            refine z_bipush (v := (-12)) cx (by decide +kernel) dX10_things_47 ?_
            obtain ⟨rfl, rfl⟩ := g_some h
            exact z_ireturn cx ce rfl ⟨rfl, rfl⟩ dX10_things_49
        · have h := g_t c8 h
          refine z_iconst (v := 0) cx (by decide +kernel) dX10_things_36 ?_
          obtain ⟨rfl, rfl⟩ := g_some h
          exact z_ireturn cx ce rfl ⟨rfl, rfl⟩ dX10_things_37
      · have h := g_f c6 h
        refine z_iconst (v := (-1)) cx (by decide +kernel) dX10_things_18 ?_
        obtain ⟨rfl, rfl⟩ := g_some h
        exact z_ireturn cx ce rfl ⟨rfl, rfl⟩ dX10_things_19
theorem c_X10_things {g : z_G} {n : Nat} (a0 : Int32) (a1 : Int32) (a2 : Int32) (S : z_Stt) {v : Int32} {S' : z_Stt} (h : f_X10_things n a0 a1 a2 S = some (v, S')) : z_Ct g M_X10_things 2 [.ref (z_ad g 0), .int a0, .int a1, .int a2] (hp g S) (z_P g (some (.int v)) S') :=
  z_Ct.of (by decide +kernel) rfl (Nat.le_of_ble_eq_true rfl) (fun K cx ce => q_weak (L' := [some (.ref (z_ad g 0)), some (.int a0), some (.int a1), some (.int a2), none, none]) (z_wk_s (z_wk_s (z_wk_s (z_wk_s (z_wk_e (z_wk_e (z_wk_0))))))) (t_X10_things n cx ce a0 a1 a2 S h))
abbrev M_X10_mend : z_M := (RX10, yX10_mend, cX10_mend, 6, some .int)
theorem mo_X10_mend : z_mo M_X10_mend 3 := ⟨tb_229, tb_2, rfl, ⟨by decide +kernel, by decide +kernel⟩, by decide +kernel, by decide⟩
theorem mv_X10_mend : z_mv M_X10_mend := ⟨tb_227, tb_228⟩
def f_X10_mend (n : Nat) (a0 : Int32) (a1 : Int32) (a2 : Int32) (S : z_Stt) : Option (Int32 × z_Stt) :=
  g_bd (f_X9_placeOf a0 a1 S) fun v1 S2 =>
  if v1 < 0 then
    some ((-1), S2)
  else
    g_bd (f_X9_mostOf a1 S2) fun v5 S6 =>
    g_bd (f_X10_within a2 v5 S6) fun v8 S9 =>
    if v8 = true then
      g_bd (f_X9_at v1 S9) fun v12 S13 =>
      if v12 = a2 then
        some (v12, S13)
      else
        g_bd (f_X0_add n v1 v12 a2 S13) fun v16 S17 =>
        g_bd (f_X9_become v1 a2 S17) fun v19 S20 =>
        some (v12, S20)
    else
      some ((-1), S9)
set_option maxHeartbeats 4000000 in
set_option maxRecDepth 100000 in
theorem t_X10_mend {g : z_G} {K : z_K} (n : Nat) {v : Int32} {S' : z_Stt} (cx : z_C g M_X10_mend 3 K) (ce : z_E' g M_X10_mend (z_P g (some (.int v)) S') K) (a0 : Int32) (a1 : Int32) (a2 : Int32) (S : z_Stt) (h : f_X10_mend n a0 a1 a2 S = some (v, S')) : z_At g M_X10_mend K 0 [some (.ref (z_ad g 0)), some (.int a0), some (.int a1), some (.int a2), none, none] [] (hp g S) := by
  unfold f_X10_mend at h
  refine z_aload_n cx rfl rfl dX10_mend_0 ?_
  refine q_getF (k := 0) (n := 1) (r := 1) cx z_cl10 (j := 0) (by decide) tb_16 rfl (by decide) rfl rfl rfl dX10_mend_1 ?_
  refine z_iload_n cx rfl rfl dX10_mend_4 ?_
  refine z_iload_n cx rfl rfl dX10_mend_5 ?_
  obtain ⟨v1, S2, e3, h⟩ := g_bd_ex h
  refine q_cvi (As := [.int a0, .int a1]) cx mo_X9_placeOf mv_X9_placeOf z_cl9 rfl tb_230 (by decide) rfl (by decide) rfl rfl (Nat.le_of_ble_eq_true rfl) dX10_mend_6 (c_X9_placeOf a0 a1 _ e3) ?_
  refine z_istore (L' := [some (.ref (z_ad g 0)), some (.int a0), some (.int a1), some (.int a2), some (.int v1), none]) cx (by decide) rfl dX10_mend_9 ?_
  refine z_iload cx rfl dX10_mend_11 ?_
  refine z_if_lt (tgt := 31) cx (by decide) dX10_mend_13 (fun c4 => ?_) (fun c4 => ?_)
  · have h := g_t c4 h
    refine z_iconst (v := (-1)) cx (by decide +kernel) dX10_mend_31 ?_
    obtain ⟨rfl, rfl⟩ := g_some h
    exact z_ireturn cx ce rfl ⟨rfl, rfl⟩ dX10_mend_32
  · have h := g_f c4 h
    refine z_iload_n cx rfl rfl dX10_mend_16 ?_
    refine z_aload_n cx rfl rfl dX10_mend_17 ?_
    refine q_getF (k := 0) (n := 1) (r := 1) cx z_cl10 (j := 0) (by decide) tb_16 rfl (by decide) rfl rfl rfl dX10_mend_18 ?_
    refine z_iload_n cx rfl rfl dX10_mend_21 ?_
    obtain ⟨v5, S6, e7, h⟩ := g_bd_ex h
    refine q_cvi (As := [.int a1]) cx mo_X9_mostOf mv_X9_mostOf z_cl9 rfl tb_244 (by decide) rfl (by decide) rfl rfl (Nat.le_of_ble_eq_true rfl) dX10_mend_22 (c_X9_mostOf a1 _ e7) ?_
    obtain ⟨v8, S9, e10, h⟩ := g_bd_ex h
    refine q_csi (As := [.int a2, .int v5]) cx mo_X10_within ms_X10_within tb_171 (by decide) rfl rfl (Nat.le_of_ble_eq_true rfl) dX10_mend_25 (c_X10_within a2 v5 _ e10) ?_
    refine q_ifb_ne (tgt := 33) cx (by decide) dX10_mend_28 (fun c11 => ?_) (fun c11 => ?_)
    · have h := g_t c11 h
      refine z_aload_n cx rfl rfl dX10_mend_33 ?_
      refine q_getF (k := 0) (n := 1) (r := 1) cx z_cl10 (j := 0) (by decide) tb_16 rfl (by decide) rfl rfl rfl dX10_mend_34 ?_
      refine z_iload cx rfl dX10_mend_37 ?_
      obtain ⟨v12, S13, e14, h⟩ := g_bd_ex h
      refine q_cvi (As := [.int v1]) cx mo_X9_at mv_X9_at z_cl9 rfl tb_249 (by decide) rfl (by decide) rfl rfl (Nat.le_of_ble_eq_true rfl) dX10_mend_39 (c_X9_at v1 _ e14) ?_
      refine z_istore (L' := [some (.ref (z_ad g 0)), some (.int a0), some (.int a1), some (.int a2), some (.int v1), some (.int v12)]) cx (by decide) rfl dX10_mend_42 ?_
      refine z_iload cx rfl dX10_mend_44 ?_
      refine z_iload_n cx rfl rfl dX10_mend_46 ?_
      refine z_icmp_eq (tgt := 72) cx (by decide) dX10_mend_47 (fun c15 => ?_) (fun c15 => ?_)
      · have h := g_t c15 h
        refine z_iload cx rfl dX10_mend_72 ?_
        obtain ⟨rfl, rfl⟩ := g_some h
        exact z_ireturn cx ce rfl ⟨rfl, rfl⟩ dX10_mend_74
      · have h := g_f c15 h
        refine z_aload_n cx rfl rfl dX10_mend_50 ?_
        refine q_getF (k := 0) (n := 3) (r := 3) cx z_cl10 (j := 1) (by decide) tb_20 rfl (by decide) rfl rfl rfl dX10_mend_51 ?_
        refine z_iload cx rfl dX10_mend_54 ?_
        refine z_iload cx rfl dX10_mend_56 ?_
        refine z_iload_n cx rfl rfl dX10_mend_58 ?_
        obtain ⟨v16, S17, e18, h⟩ := g_bd_ex h
        refine q_cvv (As := [.int v1, .int v12, .int a2]) cx mo_X0_add mv_X0_add z_cl0 rfl tb_253 (by decide) rfl (by decide) rfl rfl (Nat.le_of_ble_eq_true rfl) dX10_mend_59 (c_X0_add v1 v12 a2 _ e18) ?_
        refine z_aload_n cx rfl rfl dX10_mend_62 ?_
        refine q_getF (k := 0) (n := 1) (r := 1) cx z_cl10 (j := 0) (by decide) tb_16 rfl (by decide) rfl rfl rfl dX10_mend_63 ?_
        refine z_iload cx rfl dX10_mend_66 ?_
        refine z_iload_n cx rfl rfl dX10_mend_68 ?_
        obtain ⟨v19, S20, e21, h⟩ := g_bd_ex h
        refine q_cvv (As := [.int v1, .int a2]) cx mo_X9_become mv_X9_become z_cl9 rfl tb_261 (by decide) rfl (by decide) rfl rfl (Nat.le_of_ble_eq_true rfl) dX10_mend_69 (c_X9_become v1 a2 _ e21) ?_
        refine z_iload cx rfl dX10_mend_72 ?_
        obtain ⟨rfl, rfl⟩ := g_some h
        exact z_ireturn cx ce rfl ⟨rfl, rfl⟩ dX10_mend_74
    · have h := g_f (Bool.eq_false_iff.mp c11) h
      refine z_iconst (v := (-1)) cx (by decide +kernel) dX10_mend_31 ?_
      obtain ⟨rfl, rfl⟩ := g_some h
      exact z_ireturn cx ce rfl ⟨rfl, rfl⟩ dX10_mend_32
theorem c_X10_mend {g : z_G} {n : Nat} (a0 : Int32) (a1 : Int32) (a2 : Int32) (S : z_Stt) {v : Int32} {S' : z_Stt} (h : f_X10_mend n a0 a1 a2 S = some (v, S')) : z_Ct g M_X10_mend 3 [.ref (z_ad g 0), .int a0, .int a1, .int a2] (hp g S) (z_P g (some (.int v)) S') :=
  z_Ct.of (by decide +kernel) rfl (Nat.le_of_ble_eq_true rfl) (fun K cx ce => q_weak (L' := [some (.ref (z_ad g 0)), some (.int a0), some (.int a1), some (.int a2), none, none]) (z_wk_s (z_wk_s (z_wk_s (z_wk_s (z_wk_e (z_wk_e (z_wk_0))))))) (t_X10_mend n cx ce a0 a1 a2 S h))
abbrev M_X10_isThing : z_M := (RX10, yX10_isThing, cX10_isThing, 2, some .boolean)
theorem mo_X10_isThing : z_mo M_X10_isThing 1 := ⟨tb_306, tb_2, rfl, ⟨by decide +kernel, by decide +kernel⟩, by decide +kernel, by decide⟩
theorem mv_X10_isThing : z_mv M_X10_isThing := ⟨tb_304, tb_305⟩
def f_X10_isThing (a0 : Int32) (S : z_Stt) : Option (Bool × z_Stt) :=
  if a0 < 0 then
    some (false, S)
  else
    if S.1 101 ≤ a0 then
      some (false, S)
    else
      some (true, S)
set_option maxHeartbeats 4000000 in
set_option maxRecDepth 100000 in
theorem t_X10_isThing {g : z_G} {K : z_K} {v : Bool} {S' : z_Stt} (cx : z_C g M_X10_isThing 0 K) (ce : z_E' g M_X10_isThing (z_P g (some (.int (bI v))) S') K) (a0 : Int32) (S : z_Stt) (h : f_X10_isThing a0 S = some (v, S')) : z_At g M_X10_isThing K 0 [some (.ref (z_ad g 0)), some (.int a0)] [] (hp g S) := by
  unfold f_X10_isThing at h
  refine z_iload_n cx rfl rfl dX10_isThing_0 ?_
  refine z_if_lt (tgt := 19) cx (by decide) dX10_isThing_1 (fun c1 => ?_) (fun c1 => ?_)
  · have h := g_t c1 h
    refine z_iconst (v := 0) cx (by decide +kernel) dX10_isThing_19 ?_
    obtain ⟨rfl, rfl⟩ := g_some h
    exact z_zreturn cx ce rfl (by decide +kernel) ⟨rfl, rfl⟩ dX10_isThing_20
  · have h := g_f c1 h
    refine z_iload_n cx rfl rfl dX10_isThing_4 ?_
    refine z_aload_n cx rfl rfl dX10_isThing_5 ?_
    refine q_getF (k := 0) (n := 1) (r := 1) cx z_cl10 (j := 0) (by decide) tb_16 rfl (by decide) rfl rfl rfl dX10_isThing_6 ?_
    refine q_getI (k := 1) (n := 101) cx z_cl9 (j := 1) (by decide) tb_170 rfl (by decide) rfl rfl rfl dX10_isThing_9 ?_
    refine z_icmp_ge (tgt := 19) cx (by decide) dX10_isThing_12 (fun c2 => ?_) (fun c2 => ?_)
    · have h := g_t c2 h
      refine z_iconst (v := 0) cx (by decide +kernel) dX10_isThing_19 ?_
      obtain ⟨rfl, rfl⟩ := g_some h
      exact z_zreturn cx ce rfl (by decide +kernel) ⟨rfl, rfl⟩ dX10_isThing_20
    · have h := g_f c2 h
      refine z_iconst (v := 1) cx (by decide +kernel) dX10_isThing_15 ?_
      refine z_goto (tgt := 20) cx (by decide) dX10_isThing_16 ?_
      obtain ⟨rfl, rfl⟩ := g_some h
      exact z_zreturn cx ce rfl (by decide +kernel) ⟨rfl, rfl⟩ dX10_isThing_20
theorem c_X10_isThing {g : z_G} (a0 : Int32) (S : z_Stt) {v : Bool} {S' : z_Stt} (h : f_X10_isThing a0 S = some (v, S')) : z_Ct g M_X10_isThing 0 [.ref (z_ad g 0), .int a0] (hp g S) (z_P g (some (.int (bI v))) S') :=
  z_Ct.of (by decide +kernel) rfl (Nat.le_of_ble_eq_true rfl) (fun K cx ce => q_weak (L' := [some (.ref (z_ad g 0)), some (.int a0)]) (z_wk_s (z_wk_s (z_wk_0))) (t_X10_isThing cx ce a0 S h))
abbrev M_X10_of : z_M := (RX10, yX10_of, cX10_of, 4, some .int)
theorem mo_X10_of : z_mo M_X10_of 2 := ⟨tb_299, tb_2, rfl, ⟨by decide +kernel, by decide +kernel⟩, by decide +kernel, by decide⟩
theorem mv_X10_of : z_mv M_X10_of := ⟨tb_297, tb_298⟩
def f_X10_of_65 (x1 : Int32) (x2 : Int32) (S : z_Stt) : Option (Int32 × z_Stt) :=
  if x1 = 0 then
    if x2 = 12 then
      some (S.1 703, S)
    else
      some ((-1), S)
  else
    some ((-1), S)
set_option maxHeartbeats 4000000 in
set_option maxRecDepth 100000 in
theorem t_X10_of_65 {g : z_G} {K : z_K} {v : Int32} {S' : z_Stt} (cx : z_C g M_X10_of 3 K) (ce : z_E' g M_X10_of (z_P g (some (.int v)) S') K) (x1 : Int32) (x2 : Int32) (S : z_Stt) (h : f_X10_of_65 x1 x2 S = some (v, S')) : z_At g M_X10_of K 65 [some (.ref (z_ad g 0)), some (.int x1), some (.int x2), none] [] (hp g S) := by
  unfold f_X10_of_65 at h
  refine z_iload_n cx rfl rfl dX10_of_65 ?_
  refine z_if_ne (tgt := 83) cx (by decide) dX10_of_66 (fun c1 => ?_) (fun c1 => ?_)
  · have h := g_f c1 h
    refine z_iconst (v := (-1)) cx (by decide +kernel) dX10_of_83 ?_
    obtain ⟨rfl, rfl⟩ := g_some h
    exact z_ireturn cx ce rfl ⟨rfl, rfl⟩ dX10_of_84
  · have h := g_t c1 h
    refine z_iload_n cx rfl rfl dX10_of_69 ?_
    refine z_bipush (v := 12) cx (by decide +kernel) dX10_of_70 ?_
    refine z_icmp_ne (tgt := 83) cx (by decide) dX10_of_72 (fun c2 => ?_) (fun c2 => ?_)
    · have h := g_f c2 h
      refine z_iconst (v := (-1)) cx (by decide +kernel) dX10_of_83 ?_
      obtain ⟨rfl, rfl⟩ := g_some h
      exact z_ireturn cx ce rfl ⟨rfl, rfl⟩ dX10_of_84
    · have h := g_t c2 h
      refine z_aload_n cx rfl rfl dX10_of_75 ?_
      refine q_getF (k := 0) (n := 7) (r := 7) cx z_cl10 (j := 2) (by decide) tb_24 rfl (by decide) rfl rfl rfl dX10_of_76 ?_
      refine q_getI (k := 7) (n := 703) cx z_cl1 (j := 3) (by decide) tb_302 rfl (by decide) rfl rfl rfl dX10_of_79 ?_
      obtain ⟨rfl, rfl⟩ := g_some h
      exact z_ireturn cx ce rfl ⟨rfl, rfl⟩ dX10_of_82
def f_X10_of_47 (x1 : Int32) (x2 : Int32) (S : z_Stt) : Option (Int32 × z_Stt) :=
  if x1 = 0 then
    if x2 = 11 then
      some (S.1 702, S)
    else
      f_X10_of_65 x1 x2 S
  else
    f_X10_of_65 x1 x2 S
set_option maxHeartbeats 4000000 in
set_option maxRecDepth 100000 in
theorem t_X10_of_47 {g : z_G} {K : z_K} {v : Int32} {S' : z_Stt} (cx : z_C g M_X10_of 3 K) (ce : z_E' g M_X10_of (z_P g (some (.int v)) S') K) (x1 : Int32) (x2 : Int32) (S : z_Stt) (h : f_X10_of_47 x1 x2 S = some (v, S')) : z_At g M_X10_of K 47 [some (.ref (z_ad g 0)), some (.int x1), some (.int x2), none] [] (hp g S) := by
  unfold f_X10_of_47 at h
  refine z_iload_n cx rfl rfl dX10_of_47 ?_
  refine z_if_ne (tgt := 65) cx (by decide) dX10_of_48 (fun c1 => ?_) (fun c1 => ?_)
  · have h := g_f c1 h
    exact q_weak (z_wk_s (z_wk_s (z_wk_s (z_wk_n (z_wk_0))))) (t_X10_of_65 cx ce x1 x2 S h)
  · have h := g_t c1 h
    refine z_iload_n cx rfl rfl dX10_of_51 ?_
    refine z_bipush (v := 11) cx (by decide +kernel) dX10_of_52 ?_
    refine z_icmp_ne (tgt := 65) cx (by decide) dX10_of_54 (fun c2 => ?_) (fun c2 => ?_)
    · have h := g_f c2 h
      exact q_weak (z_wk_s (z_wk_s (z_wk_s (z_wk_n (z_wk_0))))) (t_X10_of_65 cx ce x1 x2 S h)
    · have h := g_t c2 h
      refine z_aload_n cx rfl rfl dX10_of_57 ?_
      refine q_getF (k := 0) (n := 7) (r := 7) cx z_cl10 (j := 2) (by decide) tb_24 rfl (by decide) rfl rfl rfl dX10_of_58 ?_
      refine q_getI (k := 7) (n := 702) cx z_cl1 (j := 2) (by decide) tb_301 rfl (by decide) rfl rfl rfl dX10_of_61 ?_
      obtain ⟨rfl, rfl⟩ := g_some h
      exact z_ireturn cx ce rfl ⟨rfl, rfl⟩ dX10_of_64
def f_X10_of (a0 : Int32) (a1 : Int32) (S : z_Stt) : Option (Int32 × z_Stt) :=
  g_bd (f_X9_placeOf a0 a1 S) fun v1 S2 =>
  if v1 < 0 then
    if a1 = 10 then
      g_bd (f_X10_isThing a0 S2) fun v6 S7 =>
      if v6 = true then
        if ¬ (a0 < 0 ∨ 6 ≤ a0.toNatClampNeg) then
          some (S7.2.2.1 8 a0.toNatClampNeg, S7)
        else none
      else
        f_X10_of_47 a0 a1 S7
    else
      f_X10_of_47 a0 a1 S2
  else
    g_bd (f_X9_at v1 S2) fun v11 S12 =>
    some (v11, S12)
set_option maxHeartbeats 4000000 in
set_option maxRecDepth 100000 in
theorem t_X10_of {g : z_G} {K : z_K} {v : Int32} {S' : z_Stt} (cx : z_C g M_X10_of 3 K) (ce : z_E' g M_X10_of (z_P g (some (.int v)) S') K) (a0 : Int32) (a1 : Int32) (S : z_Stt) (h : f_X10_of a0 a1 S = some (v, S')) : z_At g M_X10_of K 0 [some (.ref (z_ad g 0)), some (.int a0), some (.int a1), none] [] (hp g S) := by
  unfold f_X10_of at h
  refine z_aload_n cx rfl rfl dX10_of_0 ?_
  refine q_getF (k := 0) (n := 1) (r := 1) cx z_cl10 (j := 0) (by decide) tb_16 rfl (by decide) rfl rfl rfl dX10_of_1 ?_
  refine z_iload_n cx rfl rfl dX10_of_4 ?_
  refine z_iload_n cx rfl rfl dX10_of_5 ?_
  obtain ⟨v1, S2, e3, h⟩ := g_bd_ex h
  refine q_cvi (As := [.int a0, .int a1]) cx mo_X9_placeOf mv_X9_placeOf z_cl9 rfl tb_230 (by decide) rfl (by decide) rfl rfl (Nat.le_of_ble_eq_true rfl) dX10_of_6 (c_X9_placeOf a0 a1 _ e3) ?_
  refine z_istore_n (L' := [some (.ref (z_ad g 0)), some (.int a0), some (.int a1), some (.int v1)]) cx rfl (by decide) rfl dX10_of_9 ?_
  refine z_iload_n cx rfl rfl dX10_of_10 ?_
  refine z_if_lt (tgt := 23) cx (by decide) dX10_of_11 (fun c4 => ?_) (fun c4 => ?_)
  · have h := g_t c4 h
    refine z_iload_n cx rfl rfl dX10_of_23 ?_
    refine z_bipush (v := 10) cx (by decide +kernel) dX10_of_24 ?_
    refine z_icmp_ne (tgt := 47) cx (by decide) dX10_of_26 (fun c5 => ?_) (fun c5 => ?_)
    · have h := g_f c5 h
      exact q_weak (z_wk_s (z_wk_s (z_wk_s (z_wk_n (z_wk_0))))) (t_X10_of_47 cx ce a0 a1 S2 h)
    · have h := g_t c5 h
      refine z_aload_n cx rfl rfl dX10_of_29 ?_
      refine z_iload_n cx rfl rfl dX10_of_30 ?_
      obtain ⟨v6, S7, e8, h⟩ := g_bd_ex h
      refine q_cvi (As := [.int a0]) cx mo_X10_isThing mv_X10_isThing z_cl10 rfl tb_303 (by decide) rfl (by decide) rfl rfl (Nat.le_of_ble_eq_true rfl) dX10_of_31 (c_X10_isThing a0 _ e8) ?_
      refine q_ifb_eq (tgt := 47) cx (by decide) dX10_of_34 (fun c9 => ?_) (fun c9 => ?_)
      · have h := g_f (Bool.eq_false_iff.mp c9) h
        exact q_weak (z_wk_s (z_wk_s (z_wk_s (z_wk_n (z_wk_0))))) (t_X10_of_47 cx ce a0 a1 S7 h)
      · have h := g_t c9 h
        refine z_aload_n cx rfl rfl dX10_of_37 ?_
        refine q_getF (k := 0) (n := 7) (r := 7) cx z_cl10 (j := 2) (by decide) tb_24 rfl (by decide) rfl rfl rfl dX10_of_38 ?_
        refine q_getF (k := 7) (n := 8) (r := 1) cx z_cl1 (j := 0) (by decide) tb_300 rfl (by decide) rfl rfl rfl dX10_of_41 ?_
        refine z_iload_n cx rfl rfl dX10_of_44 ?_
        obtain ⟨c10, h⟩ := g_if h
        refine q_iald cx (by decide) rfl c10 dX10_of_45 ?_
        obtain ⟨rfl, rfl⟩ := g_some h
        exact z_ireturn cx ce rfl ⟨rfl, rfl⟩ dX10_of_46
  · have h := g_f c4 h
    refine z_aload_n cx rfl rfl dX10_of_14 ?_
    refine q_getF (k := 0) (n := 1) (r := 1) cx z_cl10 (j := 0) (by decide) tb_16 rfl (by decide) rfl rfl rfl dX10_of_15 ?_
    refine z_iload_n cx rfl rfl dX10_of_18 ?_
    obtain ⟨v11, S12, e13, h⟩ := g_bd_ex h
    refine q_cvi (As := [.int v1]) cx mo_X9_at mv_X9_at z_cl9 rfl tb_249 (by decide) rfl (by decide) rfl rfl (Nat.le_of_ble_eq_true rfl) dX10_of_19 (c_X9_at v1 _ e13) ?_
    obtain ⟨rfl, rfl⟩ := g_some h
    exact z_ireturn cx ce rfl ⟨rfl, rfl⟩ dX10_of_22
theorem c_X10_of {g : z_G} (a0 : Int32) (a1 : Int32) (S : z_Stt) {v : Int32} {S' : z_Stt} (h : f_X10_of a0 a1 S = some (v, S')) : z_Ct g M_X10_of 3 [.ref (z_ad g 0), .int a0, .int a1] (hp g S) (z_P g (some (.int v)) S') :=
  z_Ct.of (by decide +kernel) rfl (Nat.le_of_ble_eq_true rfl) (fun K cx ce => q_weak (L' := [some (.ref (z_ad g 0)), some (.int a0), some (.int a1), none]) (z_wk_s (z_wk_s (z_wk_s (z_wk_e (z_wk_0))))) (t_X10_of cx ce a0 a1 S h))
abbrev M_X10_feed : z_M := (RX10, yX10_feed, cX10_feed, 2, some .int)
theorem mo_X10_feed : z_mo M_X10_feed 1 := ⟨tb_316, tb_2, rfl, ⟨by decide +kernel, by decide +kernel⟩, by decide +kernel, by decide⟩
theorem mv_X10_feed : z_mv M_X10_feed := ⟨tb_314, tb_315⟩
def f_X10_feed (a0 : Int32) (S : z_Stt) : Option (Int32 × z_Stt) :=
  g_bd (f_X10_within a0 255 S) fun v1 S2 =>
  if v1 = true then
    if S2.1 1301 < 120 then
      g_bd (f_X6_append a0 S2) fun v6 S7 =>
      some (v6, S7)
    else
      some ((-3), S2)
  else
    some ((-1), S2)
set_option maxHeartbeats 4000000 in
set_option maxRecDepth 100000 in
theorem t_X10_feed {g : z_G} {K : z_K} {v : Int32} {S' : z_Stt} (cx : z_C g M_X10_feed 1 K) (ce : z_E' g M_X10_feed (z_P g (some (.int v)) S') K) (a0 : Int32) (S : z_Stt) (h : f_X10_feed a0 S = some (v, S')) : z_At g M_X10_feed K 0 [some (.ref (z_ad g 0)), some (.int a0)] [] (hp g S) := by
  unfold f_X10_feed at h
  refine z_iload_n cx rfl rfl dX10_feed_0 ?_
  refine z_sipush (v := 255) cx (by decide +kernel) dX10_feed_1 ?_
  obtain ⟨v1, S2, e3, h⟩ := g_bd_ex h
  refine q_csi (As := [.int a0, .int 255]) cx mo_X10_within ms_X10_within tb_171 (by decide) rfl rfl (Nat.le_of_ble_eq_true rfl) dX10_feed_4 (c_X10_within a0 255 _ e3) ?_
  refine q_ifb_ne (tgt := 12) cx (by decide) dX10_feed_7 (fun c4 => ?_) (fun c4 => ?_)
  · have h := g_t c4 h
    refine z_aload_n cx rfl rfl dX10_feed_12 ?_
    refine q_getF (k := 0) (n := 13) (r := 13) cx z_cl10 (j := 5) (by decide) tb_30 rfl (by decide) rfl rfl rfl dX10_feed_13 ?_
    refine q_getI (k := 13) (n := 1301) cx z_cl6 (j := 1) (by decide) tb_317 rfl (by decide) rfl rfl rfl dX10_feed_16 ?_
    refine z_bipush (v := 120) cx (by decide +kernel) dX10_feed_19 ?_
    refine z_icmp_lt (tgt := 27) cx (by decide) dX10_feed_21 (fun c5 => ?_) (fun c5 => ?_)
    · have h := g_t c5 h
      refine z_aload_n cx rfl rfl dX10_feed_27 ?_
      refine q_getF (k := 0) (n := 13) (r := 13) cx z_cl10 (j := 5) (by decide) tb_30 rfl (by decide) rfl rfl rfl dX10_feed_28 ?_
      refine z_iload_n cx rfl rfl dX10_feed_31 ?_
      obtain ⟨v6, S7, e8, h⟩ := g_bd_ex h
      refine q_cvi (As := [.int a0]) cx mo_X6_append mv_X6_append z_cl6 rfl tb_318 (by decide) rfl (by decide) rfl rfl (Nat.le_of_ble_eq_true rfl) dX10_feed_32 (c_X6_append a0 _ e8) ?_
      obtain ⟨rfl, rfl⟩ := g_some h
      exact z_ireturn cx ce rfl ⟨rfl, rfl⟩ dX10_feed_35
    · have h := g_f c5 h
      refine z_bipush (v := (-3)) cx (by decide +kernel) dX10_feed_24 ?_
      obtain ⟨rfl, rfl⟩ := g_some h
      exact z_ireturn cx ce rfl ⟨rfl, rfl⟩ dX10_feed_26
  · have h := g_f (Bool.eq_false_iff.mp c4) h
    refine z_iconst (v := (-1)) cx (by decide +kernel) dX10_feed_10 ?_
    obtain ⟨rfl, rfl⟩ := g_some h
    exact z_ireturn cx ce rfl ⟨rfl, rfl⟩ dX10_feed_11
theorem c_X10_feed {g : z_G} (a0 : Int32) (S : z_Stt) {v : Int32} {S' : z_Stt} (h : f_X10_feed a0 S = some (v, S')) : z_Ct g M_X10_feed 1 [.ref (z_ad g 0), .int a0] (hp g S) (z_P g (some (.int v)) S') :=
  z_Ct.of (by decide +kernel) rfl (Nat.le_of_ble_eq_true rfl) (fun K cx ce => q_weak (L' := [some (.ref (z_ad g 0)), some (.int a0)]) (z_wk_s (z_wk_s (z_wk_0))) (t_X10_feed cx ce a0 S h))
abbrev M_X10_law : z_M := (RX10, yX10_law, cX10_law, 2, some .int)
theorem mo_X10_law : z_mo M_X10_law 0 := ⟨tb_331, tb_2, rfl, ⟨by decide +kernel, by decide +kernel⟩, by decide +kernel, by decide⟩
theorem mv_X10_law : z_mv M_X10_law := ⟨tb_329, tb_330⟩
def f_X10_law (n : Nat) (S : z_Stt) : Option (Int32 × z_Stt) :=
  g_bd (f_X6_enact n S) fun v1 S2 =>
  if 0 ≤ v1 then
    some ((-100) - v1, S2)
  else
    some (1, S2)
set_option maxHeartbeats 4000000 in
set_option maxRecDepth 100000 in
theorem t_X10_law {g : z_G} {K : z_K} (n : Nat) {v : Int32} {S' : z_Stt} (cx : z_C g M_X10_law 68 K) (ce : z_E' g M_X10_law (z_P g (some (.int v)) S') K) (S : z_Stt) (h : f_X10_law n S = some (v, S')) : z_At g M_X10_law K 0 [some (.ref (z_ad g 0)), none] [] (hp g S) := by
  unfold f_X10_law at h
  refine z_aload_n cx rfl rfl dX10_law_0 ?_
  refine q_getF (k := 0) (n := 13) (r := 13) cx z_cl10 (j := 5) (by decide) tb_30 rfl (by decide) rfl rfl rfl dX10_law_1 ?_
  obtain ⟨v1, S2, e3, h⟩ := g_bd_ex h
  refine q_cvi (As := []) cx mo_X6_enact mv_X6_enact z_cl6 rfl tb_332 (by decide) rfl (by decide) rfl rfl (Nat.le_of_ble_eq_true rfl) dX10_law_4 (c_X6_enact  _ e3) ?_
  refine z_istore_n (L' := [some (.ref (z_ad g 0)), some (.int v1)]) cx rfl (by decide) rfl dX10_law_7 ?_
  refine z_iload_n cx rfl rfl dX10_law_8 ?_
  refine z_if_ge (tgt := 16) cx (by decide) dX10_law_9 (fun c4 => ?_) (fun c4 => ?_)
  · have h := g_t c4 h
    refine z_bipush (v := (-100)) cx (by decide +kernel) dX10_law_16 ?_
    refine z_iload_n cx rfl rfl dX10_law_18 ?_
    refine z_isub cx dX10_law_19 ?_
    obtain ⟨rfl, rfl⟩ := g_some h
    exact z_ireturn cx ce rfl ⟨rfl, rfl⟩ dX10_law_20
  · have h := g_f c4 h
    refine z_iconst (v := 1) cx (by decide +kernel) dX10_law_12 ?_
    refine z_goto (tgt := 20) cx (by decide) dX10_law_13 ?_
    obtain ⟨rfl, rfl⟩ := g_some h
    exact z_ireturn cx ce rfl ⟨rfl, rfl⟩ dX10_law_20
theorem c_X10_law {g : z_G} {n : Nat} (S : z_Stt) {v : Int32} {S' : z_Stt} (h : f_X10_law n S = some (v, S')) : z_Ct g M_X10_law 68 [.ref (z_ad g 0)] (hp g S) (z_P g (some (.int v)) S') :=
  z_Ct.of (by decide +kernel) rfl (Nat.le_of_ble_eq_true rfl) (fun K cx ce => q_weak (L' := [some (.ref (z_ad g 0)), none]) (z_wk_s (z_wk_e (z_wk_0))) (t_X10_law n cx ce S h))
abbrev M_X10_isMarked : z_M := (RX10, yX10_isMarked, cX10_isMarked, 2, some .boolean)
theorem mo_X10_isMarked : z_mo M_X10_isMarked 1 := ⟨tb_471, tb_2, rfl, ⟨by decide +kernel, by decide +kernel⟩, by decide +kernel, by decide⟩
theorem mv_X10_isMarked : z_mv M_X10_isMarked := ⟨tb_469, tb_470⟩
def f_X10_isMarked (a0 : Int32) (S : z_Stt) : Option (Bool × z_Stt) :=
  g_bd (f_X9_ofThing 4 a0 S) fun v1 S2 =>
  if v1 = 1 then
    some (true, S2)
  else
    some (false, S2)
set_option maxHeartbeats 4000000 in
set_option maxRecDepth 100000 in
theorem t_X10_isMarked {g : z_G} {K : z_K} {v : Bool} {S' : z_Stt} (cx : z_C g M_X10_isMarked 2 K) (ce : z_E' g M_X10_isMarked (z_P g (some (.int (bI v))) S') K) (a0 : Int32) (S : z_Stt) (h : f_X10_isMarked a0 S = some (v, S')) : z_At g M_X10_isMarked K 0 [some (.ref (z_ad g 0)), some (.int a0)] [] (hp g S) := by
  unfold f_X10_isMarked at h
  refine z_aload_n cx rfl rfl dX10_isMarked_0 ?_
  refine q_getF (k := 0) (n := 1) (r := 1) cx z_cl10 (j := 0) (by decide) tb_16 rfl (by decide) rfl rfl rfl dX10_isMarked_1 ?_
  refine z_iconst (v := 4) cx (by decide +kernel) dX10_isMarked_4 ?_
  refine z_iload_n cx rfl rfl dX10_isMarked_5 ?_
  obtain ⟨v1, S2, e3, h⟩ := g_bd_ex h
  refine q_cvi (As := [.int 4, .int a0]) cx mo_X9_ofThing mv_X9_ofThing z_cl9 rfl tb_449 (by decide) rfl (by decide) rfl rfl (Nat.le_of_ble_eq_true rfl) dX10_isMarked_6 (c_X9_ofThing 4 a0 _ e3) ?_
  refine z_iconst (v := 1) cx (by decide +kernel) dX10_isMarked_9 ?_
  refine z_icmp_ne (tgt := 17) cx (by decide) dX10_isMarked_10 (fun c4 => ?_) (fun c4 => ?_)
  · have h := g_f c4 h
    refine z_iconst (v := 0) cx (by decide +kernel) dX10_isMarked_17 ?_
    obtain ⟨rfl, rfl⟩ := g_some h
    exact z_zreturn cx ce rfl (by decide +kernel) ⟨rfl, rfl⟩ dX10_isMarked_18
  · have h := g_t c4 h
    refine z_iconst (v := 1) cx (by decide +kernel) dX10_isMarked_13 ?_
    refine z_goto (tgt := 18) cx (by decide) dX10_isMarked_14 ?_
    obtain ⟨rfl, rfl⟩ := g_some h
    exact z_zreturn cx ce rfl (by decide +kernel) ⟨rfl, rfl⟩ dX10_isMarked_18
theorem c_X10_isMarked {g : z_G} (a0 : Int32) (S : z_Stt) {v : Bool} {S' : z_Stt} (h : f_X10_isMarked a0 S = some (v, S')) : z_Ct g M_X10_isMarked 2 [.ref (z_ad g 0), .int a0] (hp g S) (z_P g (some (.int (bI v))) S') :=
  z_Ct.of (by decide +kernel) rfl (Nat.le_of_ble_eq_true rfl) (fun K cx ce => q_weak (L' := [some (.ref (z_ad g 0)), some (.int a0)]) (z_wk_s (z_wk_s (z_wk_0))) (t_X10_isMarked cx ce a0 S h))
abbrev M_X10_traceOf : z_M := (RX10, yX10_traceOf, cX10_traceOf, 2, some .int)
theorem mo_X10_traceOf : z_mo M_X10_traceOf 1 := ⟨tb_467, tb_2, rfl, ⟨by decide +kernel, by decide +kernel⟩, by decide +kernel, by decide⟩
theorem mv_X10_traceOf : z_mv M_X10_traceOf := ⟨tb_465, tb_466⟩
def f_X10_traceOf (a0 : Int32) (S : z_Stt) : Option (Int32 × z_Stt) :=
  g_bd (f_X10_isMarked a0 S) fun v1 S2 =>
  if v1 = true then
    some (12, S2)
  else
    g_bd (f_X9_ofThing 1 a0 S2) fun v5 S6 =>
    some (v5, S6)
set_option maxHeartbeats 4000000 in
set_option maxRecDepth 100000 in
theorem t_X10_traceOf {g : z_G} {K : z_K} {v : Int32} {S' : z_Stt} (cx : z_C g M_X10_traceOf 3 K) (ce : z_E' g M_X10_traceOf (z_P g (some (.int v)) S') K) (a0 : Int32) (S : z_Stt) (h : f_X10_traceOf a0 S = some (v, S')) : z_At g M_X10_traceOf K 0 [some (.ref (z_ad g 0)), some (.int a0)] [] (hp g S) := by
  unfold f_X10_traceOf at h
  refine z_aload_n cx rfl rfl dX10_traceOf_0 ?_
  refine z_iload_n cx rfl rfl dX10_traceOf_1 ?_
  obtain ⟨v1, S2, e3, h⟩ := g_bd_ex h
  refine q_cvi (As := [.int a0]) cx mo_X10_isMarked mv_X10_isMarked z_cl10 rfl tb_468 (by decide) rfl (by decide) rfl rfl (Nat.le_of_ble_eq_true rfl) dX10_traceOf_2 (c_X10_isMarked a0 _ e3) ?_
  refine q_ifb_eq (tgt := 13) cx (by decide) dX10_traceOf_5 (fun c4 => ?_) (fun c4 => ?_)
  · have h := g_f (Bool.eq_false_iff.mp c4) h
    refine z_aload_n cx rfl rfl dX10_traceOf_13 ?_
    refine q_getF (k := 0) (n := 1) (r := 1) cx z_cl10 (j := 0) (by decide) tb_16 rfl (by decide) rfl rfl rfl dX10_traceOf_14 ?_
    refine z_iconst (v := 1) cx (by decide +kernel) dX10_traceOf_17 ?_
    refine z_iload_n cx rfl rfl dX10_traceOf_18 ?_
    obtain ⟨v5, S6, e7, h⟩ := g_bd_ex h
    refine q_cvi (As := [.int 1, .int a0]) cx mo_X9_ofThing mv_X9_ofThing z_cl9 rfl tb_449 (by decide) rfl (by decide) rfl rfl (Nat.le_of_ble_eq_true rfl) dX10_traceOf_19 (c_X9_ofThing 1 a0 _ e7) ?_
    obtain ⟨rfl, rfl⟩ := g_some h
    exact z_ireturn cx ce rfl ⟨rfl, rfl⟩ dX10_traceOf_22
  · have h := g_t c4 h
    refine z_bipush (v := 12) cx (by decide +kernel) dX10_traceOf_8 ?_
    refine z_goto (tgt := 22) cx (by decide) dX10_traceOf_10 ?_
    obtain ⟨rfl, rfl⟩ := g_some h
    exact z_ireturn cx ce rfl ⟨rfl, rfl⟩ dX10_traceOf_22
theorem c_X10_traceOf {g : z_G} (a0 : Int32) (S : z_Stt) {v : Int32} {S' : z_Stt} (h : f_X10_traceOf a0 S = some (v, S')) : z_Ct g M_X10_traceOf 3 [.ref (z_ad g 0), .int a0] (hp g S) (z_P g (some (.int v)) S') :=
  z_Ct.of (by decide +kernel) rfl (Nat.le_of_ble_eq_true rfl) (fun K cx ce => q_weak (L' := [some (.ref (z_ad g 0)), some (.int a0)]) (z_wk_s (z_wk_s (z_wk_0))) (t_X10_traceOf cx ce a0 S h))
abbrev M_X10_staleOf : z_M := (RX10, yX10_staleOf, cX10_staleOf, 2, some .int)
theorem mo_X10_staleOf : z_mo M_X10_staleOf 1 := ⟨tb_475, tb_2, rfl, ⟨by decide +kernel, by decide +kernel⟩, by decide +kernel, by decide⟩
theorem mv_X10_staleOf : z_mv M_X10_staleOf := ⟨tb_473, tb_474⟩
def f_X10_staleOf_28 (x1 : Int32) (S : z_Stt) : Option (Int32 × z_Stt) :=
  g_bd (f_X9_ofThing 2 x1 S) fun v1 S2 =>
  some (v1, S2)
set_option maxHeartbeats 4000000 in
set_option maxRecDepth 100000 in
theorem t_X10_staleOf_28 {g : z_G} {K : z_K} {v : Int32} {S' : z_Stt} (cx : z_C g M_X10_staleOf 3 K) (ce : z_E' g M_X10_staleOf (z_P g (some (.int v)) S') K) (x1 : Int32) (S : z_Stt) (h : f_X10_staleOf_28 x1 S = some (v, S')) : z_At g M_X10_staleOf K 28 [some (.ref (z_ad g 0)), some (.int x1)] [] (hp g S) := by
  unfold f_X10_staleOf_28 at h
  refine z_aload_n cx rfl rfl dX10_staleOf_28 ?_
  refine q_getF (k := 0) (n := 1) (r := 1) cx z_cl10 (j := 0) (by decide) tb_16 rfl (by decide) rfl rfl rfl dX10_staleOf_29 ?_
  refine z_iconst (v := 2) cx (by decide +kernel) dX10_staleOf_32 ?_
  refine z_iload_n cx rfl rfl dX10_staleOf_33 ?_
  obtain ⟨v1, S2, e3, h⟩ := g_bd_ex h
  refine q_cvi (As := [.int 2, .int x1]) cx mo_X9_ofThing mv_X9_ofThing z_cl9 rfl tb_449 (by decide) rfl (by decide) rfl rfl (Nat.le_of_ble_eq_true rfl) dX10_staleOf_34 (c_X9_ofThing 2 x1 _ e3) ?_
  obtain ⟨rfl, rfl⟩ := g_some h
  exact z_ireturn cx ce rfl ⟨rfl, rfl⟩ dX10_staleOf_37
def f_X10_staleOf (a0 : Int32) (S : z_Stt) : Option (Int32 × z_Stt) :=
  g_bd (f_X10_isMarked a0 S) fun v1 S2 =>
  if v1 = true then
    g_bd (f_X10_isThing a0 S2) fun v5 S6 =>
    if v5 = true then
      if ¬ (a0 < 0 ∨ 6 ≤ a0.toNatClampNeg) then
        some (S6.2.2.1 8 a0.toNatClampNeg, S6)
      else none
    else
      f_X10_staleOf_28 a0 S6
  else
    f_X10_staleOf_28 a0 S2
set_option maxHeartbeats 4000000 in
set_option maxRecDepth 100000 in
theorem t_X10_staleOf {g : z_G} {K : z_K} {v : Int32} {S' : z_Stt} (cx : z_C g M_X10_staleOf 3 K) (ce : z_E' g M_X10_staleOf (z_P g (some (.int v)) S') K) (a0 : Int32) (S : z_Stt) (h : f_X10_staleOf a0 S = some (v, S')) : z_At g M_X10_staleOf K 0 [some (.ref (z_ad g 0)), some (.int a0)] [] (hp g S) := by
  unfold f_X10_staleOf at h
  refine z_aload_n cx rfl rfl dX10_staleOf_0 ?_
  refine z_iload_n cx rfl rfl dX10_staleOf_1 ?_
  obtain ⟨v1, S2, e3, h⟩ := g_bd_ex h
  refine q_cvi (As := [.int a0]) cx mo_X10_isMarked mv_X10_isMarked z_cl10 rfl tb_468 (by decide) rfl (by decide) rfl rfl (Nat.le_of_ble_eq_true rfl) dX10_staleOf_2 (c_X10_isMarked a0 _ e3) ?_
  refine q_ifb_eq (tgt := 28) cx (by decide) dX10_staleOf_5 (fun c4 => ?_) (fun c4 => ?_)
  · have h := g_f (Bool.eq_false_iff.mp c4) h
    exact q_weak (z_wk_s (z_wk_s (z_wk_0))) (t_X10_staleOf_28 cx ce a0 S2 h)
  · have h := g_t c4 h
    refine z_aload_n cx rfl rfl dX10_staleOf_8 ?_
    refine z_iload_n cx rfl rfl dX10_staleOf_9 ?_
    obtain ⟨v5, S6, e7, h⟩ := g_bd_ex h
    refine q_cvi (As := [.int a0]) cx mo_X10_isThing mv_X10_isThing z_cl10 rfl tb_303 (by decide) rfl (by decide) rfl rfl (Nat.le_of_ble_eq_true rfl) dX10_staleOf_10 (c_X10_isThing a0 _ e7) ?_
    refine q_ifb_eq (tgt := 28) cx (by decide) dX10_staleOf_13 (fun c8 => ?_) (fun c8 => ?_)
    · have h := g_f (Bool.eq_false_iff.mp c8) h
      exact q_weak (z_wk_s (z_wk_s (z_wk_0))) (t_X10_staleOf_28 cx ce a0 S6 h)
    · have h := g_t c8 h
      refine z_aload_n cx rfl rfl dX10_staleOf_16 ?_
      refine q_getF (k := 0) (n := 7) (r := 7) cx z_cl10 (j := 2) (by decide) tb_24 rfl (by decide) rfl rfl rfl dX10_staleOf_17 ?_
      refine q_getF (k := 7) (n := 8) (r := 1) cx z_cl1 (j := 0) (by decide) tb_300 rfl (by decide) rfl rfl rfl dX10_staleOf_20 ?_
      refine z_iload_n cx rfl rfl dX10_staleOf_23 ?_
      obtain ⟨c9, h⟩ := g_if h
      refine q_iald cx (by decide) rfl c9 dX10_staleOf_24 ?_
      refine z_goto (tgt := 37) cx (by decide) dX10_staleOf_25 ?_
      obtain ⟨rfl, rfl⟩ := g_some h
      exact z_ireturn cx ce rfl ⟨rfl, rfl⟩ dX10_staleOf_37
theorem c_X10_staleOf {g : z_G} (a0 : Int32) (S : z_Stt) {v : Int32} {S' : z_Stt} (h : f_X10_staleOf a0 S = some (v, S')) : z_Ct g M_X10_staleOf 3 [.ref (z_ad g 0), .int a0] (hp g S) (z_P g (some (.int v)) S') :=
  z_Ct.of (by decide +kernel) rfl (Nat.le_of_ble_eq_true rfl) (fun K cx ce => q_weak (L' := [some (.ref (z_ad g 0)), some (.int a0)]) (z_wk_s (z_wk_s (z_wk_0))) (t_X10_staleOf cx ce a0 S h))
abbrev M_X10_findOpen : z_M := (RX10, yX10_findOpen, cX10_findOpen, 10, some .boolean)
theorem mo_X10_findOpen : z_mo M_X10_findOpen 3 := ⟨tb_447, tb_2, rfl, ⟨by decide +kernel, by decide +kernel⟩, by decide +kernel, by decide⟩
theorem mv_X10_findOpen : z_mv M_X10_findOpen := ⟨tb_445, tb_446⟩
def f_X10_findOpen_75 (n : Nat) (x3 : Nat) (x4 : Int64) (x6 : Int64) (y0 : Int64) (S : z_Stt) : Option (Bool × z_Stt) :=
  g_bd (f_X4_become n x3 (x4 * y0) ((x4 * y0) + ((144 - x4) * x6)) S) fun v1 S2 =>
  some (v1, S2)
set_option maxHeartbeats 4000000 in
set_option maxRecDepth 100000 in
theorem t_X10_findOpen_75 {g : z_G} {K : z_K} (n : Nat) {v : Bool} {S' : z_Stt} (cx : z_C g M_X10_findOpen 4 K) (ce : z_E' g M_X10_findOpen (z_P g (some (.int (bI v))) S') K) (x3 : Nat) (x4 : Int64) (x6 : Int64) (y0 : Int64) (S : z_Stt) (wx3 : wp4 x3) (h : f_X10_findOpen_75 n x3 x4 x6 y0 S = some (v, S')) : z_At g M_X10_findOpen K 75 [none, none, none, some (.ref (z_ad g x3)), some (.long x4), none, some (.long x6), none, none, none] [.long y0] (hp g S) := by
  unfold f_X10_findOpen_75 at h
  refine z_lstore (L' := [none, none, none, some (.ref (z_ad g x3)), some (.long x4), none, some (.long x6), none, some (.long y0), none]) cx (by decide) rfl dX10_findOpen_75 ?_
  refine z_aload_n cx rfl rfl dX10_findOpen_77 ?_
  refine z_lload cx rfl dX10_findOpen_78 ?_
  refine z_lload cx rfl dX10_findOpen_80 ?_
  refine z_lmul cx dX10_findOpen_82 ?_
  refine z_lload cx rfl dX10_findOpen_83 ?_
  refine z_lload cx rfl dX10_findOpen_85 ?_
  refine z_lmul cx dX10_findOpen_87 ?_
  refine z_ldc2 cx tb_448 dX10_findOpen_88 ?_
  refine z_lload cx rfl dX10_findOpen_91 ?_
  refine z_lsub cx dX10_findOpen_93 ?_
  refine z_lload cx rfl dX10_findOpen_94 ?_
  refine z_lmul cx dX10_findOpen_96 ?_
  refine z_ladd cx dX10_findOpen_97 ?_
  obtain ⟨v1, S2, e3, h⟩ := g_bd_ex h
  refine q_cvi (As := [.long (x4 * y0), .long ((x4 * y0) + ((144 - x4) * x6))]) cx mo_X4_become mv_X4_become z_cl4 rfl tb_454 (by decide) rfl wx3.1 wx3.2 rfl (Nat.le_of_ble_eq_true rfl) dX10_findOpen_98 (c_X4_become x3 (x4 * y0) ((x4 * y0) + ((144 - x4) * x6)) _ wx3 e3) ?_
  obtain ⟨rfl, rfl⟩ := g_some h
  exact z_zreturn cx ce rfl (bI_nar _) ⟨rfl, rfl⟩ dX10_findOpen_101
def f_X10_findOpen_50 (n : Nat) (x1 : Int32) (x2 : Int32) (x3 : Nat) (x4 : Int64) (y0 : Int64) (S : z_Stt) : Option (Bool × z_Stt) :=
  if x2 = 1 then
    g_bd (f_X10_staleOf x1 S) fun v5 S6 =>
    f_X10_findOpen_75 n x3 x4 y0 (Int32.toInt64 v5) S6
  else
    g_bd (f_X10_staleOf x1 S) fun v2 S3 =>
    f_X10_findOpen_75 n x3 x4 y0 (Int32.toInt64 (12 - v2)) S3
set_option maxHeartbeats 4000000 in
set_option maxRecDepth 100000 in
theorem t_X10_findOpen_50 {g : z_G} {K : z_K} (n : Nat) {v : Bool} {S' : z_Stt} (cx : z_C g M_X10_findOpen 4 K) (ce : z_E' g M_X10_findOpen (z_P g (some (.int (bI v))) S') K) (x1 : Int32) (x2 : Int32) (x3 : Nat) (x4 : Int64) (y0 : Int64) (S : z_Stt) (wx3 : wp4 x3) (h : f_X10_findOpen_50 n x1 x2 x3 x4 y0 S = some (v, S')) : z_At g M_X10_findOpen K 50 [some (.ref (z_ad g 0)), some (.int x1), some (.int x2), some (.ref (z_ad g x3)), some (.long x4), none, none, none, none, none] [.long y0] (hp g S) := by
  unfold f_X10_findOpen_50 at h
  refine z_lstore (L' := [some (.ref (z_ad g 0)), some (.int x1), some (.int x2), some (.ref (z_ad g x3)), some (.long x4), none, some (.long y0), none, none, none]) cx (by decide) rfl dX10_findOpen_50 ?_
  refine z_iload_n cx rfl rfl dX10_findOpen_52 ?_
  refine z_iconst (v := 1) cx (by decide +kernel) dX10_findOpen_53 ?_
  refine z_icmp_ne (tgt := 66) cx (by decide) dX10_findOpen_54 (fun c1 => ?_) (fun c1 => ?_)
  · have h := g_f c1 h
    refine z_bipush (v := 12) cx (by decide +kernel) dX10_findOpen_66 ?_
    refine z_aload_n cx rfl rfl dX10_findOpen_68 ?_
    refine z_iload_n cx rfl rfl dX10_findOpen_69 ?_
    obtain ⟨v2, S3, e4, h⟩ := g_bd_ex h
    refine q_cvi (As := [.int x1]) cx mo_X10_staleOf mv_X10_staleOf z_cl10 rfl tb_472 (by decide) rfl (by decide) rfl rfl (Nat.le_of_ble_eq_true rfl) dX10_findOpen_70 (c_X10_staleOf x1 _ e4) ?_
    refine z_isub cx dX10_findOpen_73 ?_
    refine z_i2l cx dX10_findOpen_74 ?_
    exact q_weak (z_wk_n (z_wk_n (z_wk_n (z_wk_s (z_wk_s (z_wk_n (z_wk_s (z_wk_n (z_wk_n (z_wk_n (z_wk_0))))))))))) (t_X10_findOpen_75 n cx ce x3 x4 y0 (Int32.toInt64 (12 - v2)) S3 wx3 h)
  · have h := g_t c1 h
    refine z_aload_n cx rfl rfl dX10_findOpen_57 ?_
    refine z_iload_n cx rfl rfl dX10_findOpen_58 ?_
    obtain ⟨v5, S6, e7, h⟩ := g_bd_ex h
    refine q_cvi (As := [.int x1]) cx mo_X10_staleOf mv_X10_staleOf z_cl10 rfl tb_472 (by decide) rfl (by decide) rfl rfl (Nat.le_of_ble_eq_true rfl) dX10_findOpen_59 (c_X10_staleOf x1 _ e7) ?_
    refine z_i2l cx dX10_findOpen_62 ?_
    refine z_goto (tgt := 75) cx (by decide) dX10_findOpen_63 ?_
    exact q_weak (z_wk_n (z_wk_n (z_wk_n (z_wk_s (z_wk_s (z_wk_n (z_wk_s (z_wk_n (z_wk_n (z_wk_n (z_wk_0))))))))))) (t_X10_findOpen_75 n cx ce x3 x4 y0 (Int32.toInt64 v5) S6 wx3 h)
def f_X10_findOpen (n : Nat) (a0 : Int32) (a1 : Int32) (a2 : Nat) (S : z_Stt) : Option (Bool × z_Stt) :=
  g_bd (f_X9_ofThing 0 a0 S) fun v1 S2 =>
  if a1 = 2 then
    g_bd (f_X4_become n a2 (Int32.toInt64 v1) 144 S2) fun v12 S13 =>
    some (v12, S13)
  else
    if a1 = 1 then
      g_bd (f_X10_traceOf a0 S2) fun v9 S10 =>
      f_X10_findOpen_50 n a0 a1 a2 (Int32.toInt64 v1) (Int32.toInt64 v9) S10
    else
      g_bd (f_X10_traceOf a0 S2) fun v6 S7 =>
      f_X10_findOpen_50 n a0 a1 a2 (Int32.toInt64 v1) (Int32.toInt64 (12 - v6)) S7
set_option maxHeartbeats 4000000 in
set_option maxRecDepth 100000 in
theorem t_X10_findOpen {g : z_G} {K : z_K} (n : Nat) {v : Bool} {S' : z_Stt} (cx : z_C g M_X10_findOpen 4 K) (ce : z_E' g M_X10_findOpen (z_P g (some (.int (bI v))) S') K) (a0 : Int32) (a1 : Int32) (a2 : Nat) (S : z_Stt) (wa2 : wp4 a2) (h : f_X10_findOpen n a0 a1 a2 S = some (v, S')) : z_At g M_X10_findOpen K 0 [some (.ref (z_ad g 0)), some (.int a0), some (.int a1), some (.ref (z_ad g a2)), none, none, none, none, none, none] [] (hp g S) := by
  unfold f_X10_findOpen at h
  refine z_aload_n cx rfl rfl dX10_findOpen_0 ?_
  refine q_getF (k := 0) (n := 1) (r := 1) cx z_cl10 (j := 0) (by decide) tb_16 rfl (by decide) rfl rfl rfl dX10_findOpen_1 ?_
  refine z_iconst (v := 0) cx (by decide +kernel) dX10_findOpen_4 ?_
  refine z_iload_n cx rfl rfl dX10_findOpen_5 ?_
  obtain ⟨v1, S2, e3, h⟩ := g_bd_ex h
  refine q_cvi (As := [.int 0, .int a0]) cx mo_X9_ofThing mv_X9_ofThing z_cl9 rfl tb_449 (by decide) rfl (by decide) rfl rfl (Nat.le_of_ble_eq_true rfl) dX10_findOpen_6 (c_X9_ofThing 0 a0 _ e3) ?_
  refine z_i2l cx dX10_findOpen_9 ?_
  refine z_lstore (L' := [some (.ref (z_ad g 0)), some (.int a0), some (.int a1), some (.ref (z_ad g a2)), some (.long (Int32.toInt64 v1)), none, none, none, none, none]) cx (by decide) rfl dX10_findOpen_10 ?_
  refine z_iload_n cx rfl rfl dX10_findOpen_12 ?_
  refine z_iconst (v := 2) cx (by decide +kernel) dX10_findOpen_13 ?_
  refine z_icmp_ne (tgt := 27) cx (by decide) dX10_findOpen_14 (fun c4 => ?_) (fun c4 => ?_)
  · have h := g_f c4 h
    refine z_iload_n cx rfl rfl dX10_findOpen_27 ?_
    refine z_iconst (v := 1) cx (by decide +kernel) dX10_findOpen_28 ?_
    refine z_icmp_ne (tgt := 41) cx (by decide) dX10_findOpen_29 (fun c5 => ?_) (fun c5 => ?_)
    · have h := g_f c5 h
      refine z_bipush (v := 12) cx (by decide +kernel) dX10_findOpen_41 ?_
      refine z_aload_n cx rfl rfl dX10_findOpen_43 ?_
      refine z_iload_n cx rfl rfl dX10_findOpen_44 ?_
      obtain ⟨v6, S7, e8, h⟩ := g_bd_ex h
      refine q_cvi (As := [.int a0]) cx mo_X10_traceOf mv_X10_traceOf z_cl10 rfl tb_464 (by decide) rfl (by decide) rfl rfl (Nat.le_of_ble_eq_true rfl) dX10_findOpen_45 (c_X10_traceOf a0 _ e8) ?_
      refine z_isub cx dX10_findOpen_48 ?_
      refine z_i2l cx dX10_findOpen_49 ?_
      exact q_weak (z_wk_s (z_wk_s (z_wk_s (z_wk_s (z_wk_s (z_wk_n (z_wk_n (z_wk_n (z_wk_n (z_wk_n (z_wk_0))))))))))) (t_X10_findOpen_50 n cx ce a0 a1 a2 (Int32.toInt64 v1) (Int32.toInt64 (12 - v6)) S7 wa2 h)
    · have h := g_t c5 h
      refine z_aload_n cx rfl rfl dX10_findOpen_32 ?_
      refine z_iload_n cx rfl rfl dX10_findOpen_33 ?_
      obtain ⟨v9, S10, e11, h⟩ := g_bd_ex h
      refine q_cvi (As := [.int a0]) cx mo_X10_traceOf mv_X10_traceOf z_cl10 rfl tb_464 (by decide) rfl (by decide) rfl rfl (Nat.le_of_ble_eq_true rfl) dX10_findOpen_34 (c_X10_traceOf a0 _ e11) ?_
      refine z_i2l cx dX10_findOpen_37 ?_
      refine z_goto (tgt := 50) cx (by decide) dX10_findOpen_38 ?_
      exact q_weak (z_wk_s (z_wk_s (z_wk_s (z_wk_s (z_wk_s (z_wk_n (z_wk_n (z_wk_n (z_wk_n (z_wk_n (z_wk_0))))))))))) (t_X10_findOpen_50 n cx ce a0 a1 a2 (Int32.toInt64 v1) (Int32.toInt64 v9) S10 wa2 h)
  · have h := g_t c4 h
    refine z_aload_n cx rfl rfl dX10_findOpen_17 ?_
    refine z_lload cx rfl dX10_findOpen_18 ?_
    refine z_ldc2 cx tb_448 dX10_findOpen_20 ?_
    obtain ⟨v12, S13, e14, h⟩ := g_bd_ex h
    refine q_cvi (As := [.long (Int32.toInt64 v1), .long 144]) cx mo_X4_become mv_X4_become z_cl4 rfl tb_454 (by decide) rfl wa2.1 wa2.2 rfl (Nat.le_of_ble_eq_true rfl) dX10_findOpen_23 (c_X4_become a2 (Int32.toInt64 v1) 144 _ wa2 e14) ?_
    obtain ⟨rfl, rfl⟩ := g_some h
    exact z_zreturn cx ce rfl (bI_nar _) ⟨rfl, rfl⟩ dX10_findOpen_26
theorem c_X10_findOpen {g : z_G} {n : Nat} (a0 : Int32) (a1 : Int32) (a2 : Nat) (S : z_Stt) {v : Bool} {S' : z_Stt} (wa2 : wp4 a2) (h : f_X10_findOpen n a0 a1 a2 S = some (v, S')) : z_Ct g M_X10_findOpen 4 [.ref (z_ad g 0), .int a0, .int a1, .ref (z_ad g a2)] (hp g S) (z_P g (some (.int (bI v))) S') :=
  z_Ct.of (by decide +kernel) rfl (Nat.le_of_ble_eq_true rfl) (fun K cx ce => q_weak (L' := [some (.ref (z_ad g 0)), some (.int a0), some (.int a1), some (.ref (z_ad g a2)), none, none, none, none, none, none]) (z_wk_s (z_wk_s (z_wk_s (z_wk_s (z_wk_e (z_wk_e (z_wk_e (z_wk_e (z_wk_e (z_wk_e (z_wk_0))))))))))) (t_X10_findOpen n cx ce a0 a1 a2 S wa2 h))
abbrev M_X10_open : z_M := (RX10, yX10_open, cX10_open, 4, some .long)
theorem mo_X10_open : z_mo M_X10_open 3 := ⟨tb_441, tb_2, rfl, ⟨by decide +kernel, by decide +kernel⟩, by decide +kernel, by decide⟩
theorem mv_X10_open : z_mv M_X10_open := ⟨tb_439, tb_440⟩
def f_X10_open (n : Nat) (a0 : Int32) (a1 : Int32) (a2 : Int32) (S : z_Stt) : Option (Int64 × z_Stt) :=
  g_bd (f_X10_isThing a0 S) fun v1 S2 =>
  if v1 = true then
    g_bd (f_X10_within a1 2 S2) fun v5 S6 =>
    if v5 = true then
      g_bd (f_X10_within a2 1 S6) fun v9 S10 =>
      if v9 = true then
        g_bd (f_X10_findOpen n a0 a1 17 S10) fun v13 S14 =>
        if v13 = true then
          g_bd (f_X4_part 17 a2 S14) fun v17 S18 =>
          some (v17, S18)
        else
          some ((-2), S14)
      else
        some ((-9223372036854775808), S10)
    else
      some ((-9223372036854775808), S6)
  else
    some ((-9223372036854775808), S2)
set_option maxHeartbeats 4000000 in
set_option maxRecDepth 100000 in
theorem t_X10_open {g : z_G} {K : z_K} (n : Nat) {v : Int64} {S' : z_Stt} (cx : z_C g M_X10_open 5 K) (ce : z_E' g M_X10_open (z_P g (some (.long v)) S') K) (a0 : Int32) (a1 : Int32) (a2 : Int32) (S : z_Stt) (h : f_X10_open n a0 a1 a2 S = some (v, S')) : z_At g M_X10_open K 0 [some (.ref (z_ad g 0)), some (.int a0), some (.int a1), some (.int a2)] [] (hp g S) := by
  unfold f_X10_open at h
  refine z_aload_n cx rfl rfl dX10_open_0 ?_
  refine z_iload_n cx rfl rfl dX10_open_1 ?_
  obtain ⟨v1, S2, e3, h⟩ := g_bd_ex h
  refine q_cvi (As := [.int a0]) cx mo_X10_isThing mv_X10_isThing z_cl10 rfl tb_303 (by decide) rfl (by decide) rfl rfl (Nat.le_of_ble_eq_true rfl) dX10_open_2 (c_X10_isThing a0 _ e3) ?_
  refine q_ifb_eq (tgt := 24) cx (by decide) dX10_open_5 (fun c4 => ?_) (fun c4 => ?_)
  · have h := g_f (Bool.eq_false_iff.mp c4) h
    refine z_ldc2 cx tb_442 dX10_open_24 ?_
    obtain ⟨rfl, rfl⟩ := g_some h
    exact z_lreturn cx ce rfl ⟨rfl, rfl⟩ dX10_open_27
  · have h := g_t c4 h
    refine z_iload_n cx rfl rfl dX10_open_8 ?_
    refine z_iconst (v := 2) cx (by decide +kernel) dX10_open_9 ?_
    obtain ⟨v5, S6, e7, h⟩ := g_bd_ex h
    refine q_csi (As := [.int a1, .int 2]) cx mo_X10_within ms_X10_within tb_171 (by decide) rfl rfl (Nat.le_of_ble_eq_true rfl) dX10_open_10 (c_X10_within a1 2 _ e7) ?_
    refine q_ifb_eq (tgt := 24) cx (by decide) dX10_open_13 (fun c8 => ?_) (fun c8 => ?_)
    · have h := g_f (Bool.eq_false_iff.mp c8) h
      refine z_ldc2 cx tb_442 dX10_open_24 ?_
      obtain ⟨rfl, rfl⟩ := g_some h
      exact z_lreturn cx ce rfl ⟨rfl, rfl⟩ dX10_open_27
    · have h := g_t c8 h
      refine z_iload_n cx rfl rfl dX10_open_16 ?_
      refine z_iconst (v := 1) cx (by decide +kernel) dX10_open_17 ?_
      obtain ⟨v9, S10, e11, h⟩ := g_bd_ex h
      refine q_csi (As := [.int a2, .int 1]) cx mo_X10_within ms_X10_within tb_171 (by decide) rfl rfl (Nat.le_of_ble_eq_true rfl) dX10_open_18 (c_X10_within a2 1 _ e11) ?_
      refine q_ifb_ne (tgt := 28) cx (by decide) dX10_open_21 (fun c12 => ?_) (fun c12 => ?_)
      · have h := g_t c12 h
        refine z_aload_n cx rfl rfl dX10_open_28 ?_
        refine z_iload_n cx rfl rfl dX10_open_29 ?_
        refine z_iload_n cx rfl rfl dX10_open_30 ?_
        refine z_aload_n cx rfl rfl dX10_open_31 ?_
        refine q_getF (k := 0) (n := 17) (r := 17) cx z_cl10 (j := 6) (by decide) tb_34 rfl (by decide) rfl rfl rfl dX10_open_32 ?_
        obtain ⟨v13, S14, e15, h⟩ := g_bd_ex h
        refine q_cvi (As := [.int a0, .int a1, .ref (z_ad g 17)]) cx mo_X10_findOpen mv_X10_findOpen z_cl10 rfl tb_444 (by decide) rfl (by decide) rfl rfl (Nat.le_of_ble_eq_true rfl) dX10_open_35 (c_X10_findOpen a0 a1 17 _ wp4_17 e15) ?_
        refine q_ifb_eq (tgt := 52) cx (by decide) dX10_open_38 (fun c16 => ?_) (fun c16 => ?_)
        · have h := g_f (Bool.eq_false_iff.mp c16) h
          refine z_ldc2 cx tb_443 dX10_open_52 ?_
          obtain ⟨rfl, rfl⟩ := g_some h
          exact z_lreturn cx ce rfl ⟨rfl, rfl⟩ dX10_open_55
        · have h := g_t c16 h
          refine z_aload_n cx rfl rfl dX10_open_41 ?_
          refine q_getF (k := 0) (n := 17) (r := 17) cx z_cl10 (j := 6) (by decide) tb_34 rfl (by decide) rfl rfl rfl dX10_open_42 ?_
          refine z_iload_n cx rfl rfl dX10_open_45 ?_
          obtain ⟨v17, S18, e19, h⟩ := g_bd_ex h
          refine q_cvl (As := [.int a2]) cx mo_X4_part mv_X4_part z_cl4 rfl tb_476 (by decide) rfl (by decide) rfl rfl (Nat.le_of_ble_eq_true rfl) dX10_open_46 (c_X4_part 17 a2 _ wp4_17 e19) ?_
          refine z_goto (tgt := 55) cx (by decide) dX10_open_49 ?_
          obtain ⟨rfl, rfl⟩ := g_some h
          exact z_lreturn cx ce rfl ⟨rfl, rfl⟩ dX10_open_55
      · have h := g_f (Bool.eq_false_iff.mp c12) h
        refine z_ldc2 cx tb_442 dX10_open_24 ?_
        obtain ⟨rfl, rfl⟩ := g_some h
        exact z_lreturn cx ce rfl ⟨rfl, rfl⟩ dX10_open_27
theorem c_X10_open {g : z_G} {n : Nat} (a0 : Int32) (a1 : Int32) (a2 : Int32) (S : z_Stt) {v : Int64} {S' : z_Stt} (h : f_X10_open n a0 a1 a2 S = some (v, S')) : z_Ct g M_X10_open 5 [.ref (z_ad g 0), .int a0, .int a1, .int a2] (hp g S) (z_P g (some (.long v)) S') :=
  z_Ct.of (by decide +kernel) rfl (Nat.le_of_ble_eq_true rfl) (fun K cx ce => q_weak (L' := [some (.ref (z_ad g 0)), some (.int a0), some (.int a1), some (.int a2)]) (z_wk_s (z_wk_s (z_wk_s (z_wk_s (z_wk_0))))) (t_X10_open n cx ce a0 a1 a2 S h))
abbrev M_X10_isThingAndMemory : z_M := (RX10, yX10_isThingAndMemory, cX10_isThingAndMemory, 3, some .boolean)
theorem mo_X10_isThingAndMemory : z_mo M_X10_isThingAndMemory 2 := ⟨tb_521, tb_2, rfl, ⟨by decide +kernel, by decide +kernel⟩, by decide +kernel, by decide⟩
theorem mv_X10_isThingAndMemory : z_mv M_X10_isThingAndMemory := ⟨tb_519, tb_520⟩
def f_X10_isThingAndMemory (a0 : Int32) (a1 : Int32) (S : z_Stt) : Option (Bool × z_Stt) :=
  if a0 < 0 then
    some (false, S)
  else
    g_bd (f_X10_isThing (a0 / 10) S) fun v2 S3 =>
    if v2 = true then
      g_bd (f_X10_within (a0 % 10) a1 S3) fun v6 S7 =>
      if v6 = true then
        some (true, S7)
      else
        some (false, S7)
    else
      some (false, S3)
set_option maxHeartbeats 4000000 in
set_option maxRecDepth 100000 in
theorem t_X10_isThingAndMemory {g : z_G} {K : z_K} {v : Bool} {S' : z_Stt} (cx : z_C g M_X10_isThingAndMemory 1 K) (ce : z_E' g M_X10_isThingAndMemory (z_P g (some (.int (bI v))) S') K) (a0 : Int32) (a1 : Int32) (S : z_Stt) (h : f_X10_isThingAndMemory a0 a1 S = some (v, S')) : z_At g M_X10_isThingAndMemory K 0 [some (.ref (z_ad g 0)), some (.int a0), some (.int a1)] [] (hp g S) := by
  unfold f_X10_isThingAndMemory at h
  refine z_iload_n cx rfl rfl dX10_isThingAndMemory_0 ?_
  refine z_if_lt (tgt := 30) cx (by decide) dX10_isThingAndMemory_1 (fun c1 => ?_) (fun c1 => ?_)
  · have h := g_t c1 h
    refine z_iconst (v := 0) cx (by decide +kernel) dX10_isThingAndMemory_30 ?_
    obtain ⟨rfl, rfl⟩ := g_some h
    exact z_zreturn cx ce rfl (by decide +kernel) ⟨rfl, rfl⟩ dX10_isThingAndMemory_31
  · have h := g_f c1 h
    refine z_aload_n cx rfl rfl dX10_isThingAndMemory_4 ?_
    refine z_iload_n cx rfl rfl dX10_isThingAndMemory_5 ?_
    refine z_bipush (v := 10) cx (by decide +kernel) dX10_isThingAndMemory_6 ?_
    refine z_idiv cx (by decide +kernel) dX10_isThingAndMemory_8 ?_
    obtain ⟨v2, S3, e4, h⟩ := g_bd_ex h
    refine q_cvi (As := [.int (a0 / 10)]) cx mo_X10_isThing mv_X10_isThing z_cl10 rfl tb_303 (by decide) rfl (by decide) rfl rfl (Nat.le_of_ble_eq_true rfl) dX10_isThingAndMemory_9 (c_X10_isThing (a0 / 10) _ e4) ?_
    refine q_ifb_eq (tgt := 30) cx (by decide) dX10_isThingAndMemory_12 (fun c5 => ?_) (fun c5 => ?_)
    · have h := g_f (Bool.eq_false_iff.mp c5) h
      refine z_iconst (v := 0) cx (by decide +kernel) dX10_isThingAndMemory_30 ?_
      obtain ⟨rfl, rfl⟩ := g_some h
      exact z_zreturn cx ce rfl (by decide +kernel) ⟨rfl, rfl⟩ dX10_isThingAndMemory_31
    · have h := g_t c5 h
      refine z_iload_n cx rfl rfl dX10_isThingAndMemory_15 ?_
      refine z_bipush (v := 10) cx (by decide +kernel) dX10_isThingAndMemory_16 ?_
      refine z_irem cx (by decide +kernel) dX10_isThingAndMemory_18 ?_
      refine z_iload_n cx rfl rfl dX10_isThingAndMemory_19 ?_
      obtain ⟨v6, S7, e8, h⟩ := g_bd_ex h
      refine q_csi (As := [.int (a0 % 10), .int a1]) cx mo_X10_within ms_X10_within tb_171 (by decide) rfl rfl (Nat.le_of_ble_eq_true rfl) dX10_isThingAndMemory_20 (c_X10_within (a0 % 10) a1 _ e8) ?_
      refine q_ifb_eq (tgt := 30) cx (by decide) dX10_isThingAndMemory_23 (fun c9 => ?_) (fun c9 => ?_)
      · have h := g_f (Bool.eq_false_iff.mp c9) h
        refine z_iconst (v := 0) cx (by decide +kernel) dX10_isThingAndMemory_30 ?_
        obtain ⟨rfl, rfl⟩ := g_some h
        exact z_zreturn cx ce rfl (by decide +kernel) ⟨rfl, rfl⟩ dX10_isThingAndMemory_31
      · have h := g_t c9 h
        refine z_iconst (v := 1) cx (by decide +kernel) dX10_isThingAndMemory_26 ?_
        refine z_goto (tgt := 31) cx (by decide) dX10_isThingAndMemory_27 ?_
        obtain ⟨rfl, rfl⟩ := g_some h
        exact z_zreturn cx ce rfl (by decide +kernel) ⟨rfl, rfl⟩ dX10_isThingAndMemory_31
theorem c_X10_isThingAndMemory {g : z_G} (a0 : Int32) (a1 : Int32) (S : z_Stt) {v : Bool} {S' : z_Stt} (h : f_X10_isThingAndMemory a0 a1 S = some (v, S')) : z_Ct g M_X10_isThingAndMemory 1 [.ref (z_ad g 0), .int a0, .int a1] (hp g S) (z_P g (some (.int (bI v))) S') :=
  z_Ct.of (by decide +kernel) rfl (Nat.le_of_ble_eq_true rfl) (fun K cx ce => q_weak (L' := [some (.ref (z_ad g 0)), some (.int a0), some (.int a1)]) (z_wk_s (z_wk_s (z_wk_s (z_wk_0)))) (t_X10_isThingAndMemory cx ce a0 a1 S h))
abbrev M_X10_wayBack : z_M := (RX10, yX10_wayBack, cX10_wayBack, 2, some .int)
theorem mo_X10_wayBack : z_mo M_X10_wayBack 1 := ⟨tb_531, tb_2, rfl, ⟨by decide +kernel, by decide +kernel⟩, by decide +kernel, by decide⟩
theorem mv_X10_wayBack : z_mv M_X10_wayBack := ⟨tb_529, tb_530⟩
def f_X10_wayBack (a0 : Int32) (S : z_Stt) : Option (Int32 × z_Stt) :=
  g_bd (f_X9_price S) fun v1 S2 =>
  some ((2 * a0) * v1, S2)
set_option maxHeartbeats 4000000 in
set_option maxRecDepth 100000 in
theorem t_X10_wayBack {g : z_G} {K : z_K} {v : Int32} {S' : z_Stt} (cx : z_C g M_X10_wayBack 1 K) (ce : z_E' g M_X10_wayBack (z_P g (some (.int v)) S') K) (a0 : Int32) (S : z_Stt) (h : f_X10_wayBack a0 S = some (v, S')) : z_At g M_X10_wayBack K 0 [some (.ref (z_ad g 0)), some (.int a0)] [] (hp g S) := by
  unfold f_X10_wayBack at h
  refine z_iconst (v := 2) cx (by decide +kernel) dX10_wayBack_0 ?_
  refine z_iload_n cx rfl rfl dX10_wayBack_1 ?_
  refine z_imul cx dX10_wayBack_2 ?_
  refine z_aload_n cx rfl rfl dX10_wayBack_3 ?_
  refine q_getF (k := 0) (n := 1) (r := 1) cx z_cl10 (j := 0) (by decide) tb_16 rfl (by decide) rfl rfl rfl dX10_wayBack_4 ?_
  obtain ⟨v1, S2, e3, h⟩ := g_bd_ex h
  refine q_cvi (As := []) cx mo_X9_price mv_X9_price z_cl9 rfl tb_532 (by decide) rfl (by decide) rfl rfl (Nat.le_of_ble_eq_true rfl) dX10_wayBack_7 (c_X9_price  _ e3) ?_
  refine z_imul cx dX10_wayBack_10 ?_
  obtain ⟨rfl, rfl⟩ := g_some h
  exact z_ireturn cx ce rfl ⟨rfl, rfl⟩ dX10_wayBack_11
theorem c_X10_wayBack {g : z_G} (a0 : Int32) (S : z_Stt) {v : Int32} {S' : z_Stt} (h : f_X10_wayBack a0 S = some (v, S')) : z_Ct g M_X10_wayBack 1 [.ref (z_ad g 0), .int a0] (hp g S) (z_P g (some (.int v)) S') :=
  z_Ct.of (by decide +kernel) rfl (Nat.le_of_ble_eq_true rfl) (fun K cx ce => q_weak (L' := [some (.ref (z_ad g 0)), some (.int a0)]) (z_wk_s (z_wk_s (z_wk_0))) (t_X10_wayBack cx ce a0 S h))
abbrev M_X10_paysBy : z_M := (RX10, yX10_paysBy, cX10_paysBy, 4, some .boolean)
theorem mo_X10_paysBy : z_mo M_X10_paysBy 3 := ⟨tb_525, tb_2, rfl, ⟨by decide +kernel, by decide +kernel⟩, by decide +kernel, by decide⟩
theorem mv_X10_paysBy : z_mv M_X10_paysBy := ⟨tb_523, tb_524⟩
def f_X10_paysBy (a0 : Nat) (a1 : Int32) (a2 : Int32) (S : z_Stt) : Option (Bool × z_Stt) :=
  g_bd (f_X10_wayBack a2 S) fun v1 S2 =>
  g_bd (f_X9_ofThing 3 a1 S2) fun v4 S5 =>
  if 0 ≤ lg_cmp ((Int32.toInt64 v1) * (S2.2.1 (100 * a0 + 1))) ((S2.2.1 (100 * a0 + 0)) * (Int32.toInt64 v4)) then
    some (false, S5)
  else
    some (true, S5)
set_option maxHeartbeats 4000000 in
set_option maxRecDepth 100000 in
theorem t_X10_paysBy {g : z_G} {K : z_K} {v : Bool} {S' : z_Stt} (cx : z_C g M_X10_paysBy 2 K) (ce : z_E' g M_X10_paysBy (z_P g (some (.int (bI v))) S') K) (a0 : Nat) (a1 : Int32) (a2 : Int32) (S : z_Stt) (wa0 : wp4 a0) (h : f_X10_paysBy a0 a1 a2 S = some (v, S')) : z_At g M_X10_paysBy K 0 [some (.ref (z_ad g 0)), some (.ref (z_ad g a0)), some (.int a1), some (.int a2)] [] (hp g S) := by
  unfold f_X10_paysBy at h
  refine z_aload_n cx rfl rfl dX10_paysBy_0 ?_
  refine z_iload_n cx rfl rfl dX10_paysBy_1 ?_
  obtain ⟨v1, S2, e3, h⟩ := g_bd_ex h
  refine q_cvi (As := [.int a2]) cx mo_X10_wayBack mv_X10_wayBack z_cl10 rfl tb_528 (by decide) rfl (by decide) rfl rfl (Nat.le_of_ble_eq_true rfl) dX10_paysBy_2 (c_X10_wayBack a2 _ e3) ?_
  refine z_i2l cx dX10_paysBy_5 ?_
  refine z_aload_n cx rfl rfl dX10_paysBy_6 ?_
  refine q_getJ (k := a0) (n := 100 * a0 + 1) cx z_cl4 (j := 1) (by decide) tb_526 rfl wa0.1 wa0.2 rfl rfl dX10_paysBy_7 ?_
  refine z_lmul cx dX10_paysBy_10 ?_
  refine z_aload_n cx rfl rfl dX10_paysBy_11 ?_
  refine q_getJ (k := a0) (n := 100 * a0 + 0) cx z_cl4 (j := 0) (by decide) tb_527 rfl wa0.1 wa0.2 rfl rfl dX10_paysBy_12 ?_
  refine z_aload_n cx rfl rfl dX10_paysBy_15 ?_
  refine q_getF (k := 0) (n := 1) (r := 1) cx z_cl10 (j := 0) (by decide) tb_16 rfl (by decide) rfl rfl rfl dX10_paysBy_16 ?_
  refine z_iconst (v := 3) cx (by decide +kernel) dX10_paysBy_19 ?_
  refine z_iload_n cx rfl rfl dX10_paysBy_20 ?_
  obtain ⟨v4, S5, e6, h⟩ := g_bd_ex h
  refine q_cvi (As := [.int 3, .int a1]) cx mo_X9_ofThing mv_X9_ofThing z_cl9 rfl tb_449 (by decide) rfl (by decide) rfl rfl (Nat.le_of_ble_eq_true rfl) dX10_paysBy_21 (c_X9_ofThing 3 a1 _ e6) ?_
  refine z_i2l cx dX10_paysBy_24 ?_
  refine z_lmul cx dX10_paysBy_25 ?_
  refine z_lcmp cx dX10_paysBy_26 ?_
  refine z_if_ge (tgt := 34) cx (by decide) dX10_paysBy_27 (fun c7 => ?_) (fun c7 => ?_)
  · have h := g_t c7 h
    refine z_iconst (v := 0) cx (by decide +kernel) dX10_paysBy_34 ?_
    obtain ⟨rfl, rfl⟩ := g_some h
    exact z_zreturn cx ce rfl (by decide +kernel) ⟨rfl, rfl⟩ dX10_paysBy_35
  · have h := g_f c7 h
    refine z_iconst (v := 1) cx (by decide +kernel) dX10_paysBy_30 ?_
    refine z_goto (tgt := 35) cx (by decide) dX10_paysBy_31 ?_
    obtain ⟨rfl, rfl⟩ := g_some h
    exact z_zreturn cx ce rfl (by decide +kernel) ⟨rfl, rfl⟩ dX10_paysBy_35
theorem c_X10_paysBy {g : z_G} (a0 : Nat) (a1 : Int32) (a2 : Int32) (S : z_Stt) {v : Bool} {S' : z_Stt} (wa0 : wp4 a0) (h : f_X10_paysBy a0 a1 a2 S = some (v, S')) : z_Ct g M_X10_paysBy 2 [.ref (z_ad g 0), .ref (z_ad g a0), .int a1, .int a2] (hp g S) (z_P g (some (.int (bI v))) S') :=
  z_Ct.of (by decide +kernel) rfl (Nat.le_of_ble_eq_true rfl) (fun K cx ce => q_weak (L' := [some (.ref (z_ad g 0)), some (.ref (z_ad g a0)), some (.int a1), some (.int a2)]) (z_wk_s (z_wk_s (z_wk_s (z_wk_s (z_wk_0))))) (t_X10_paysBy cx ce a0 a1 a2 S wa0 h))
abbrev M_X10_pays : z_M := (RX10, yX10_pays, cX10_pays, 3, some .int)
theorem mo_X10_pays : z_mo M_X10_pays 2 := ⟨tb_517, tb_2, rfl, ⟨by decide +kernel, by decide +kernel⟩, by decide +kernel, by decide⟩
theorem mv_X10_pays : z_mv M_X10_pays := ⟨tb_515, tb_516⟩
def f_X10_pays (n : Nat) (a0 : Int32) (a1 : Int32) (S : z_Stt) : Option (Int32 × z_Stt) :=
  g_bd (f_X10_isThingAndMemory a0 2 S) fun v1 S2 =>
  if v1 = true then
    g_bd (f_X10_within a1 99 S2) fun v5 S6 =>
    if v5 = true then
      g_bd (f_X10_findOpen n (a0 / 10) (a0 % 10) 17 S6) fun v9 S10 =>
      if v9 = true then
        g_bd (f_X10_paysBy 17 (a0 / 10) a1 S10) fun v13 S14 =>
        if v13 = true then
          some (1, S14)
        else
          some (0, S14)
      else
        some ((-2), S10)
    else
      some ((-1), S6)
  else
    some ((-1), S2)
set_option maxHeartbeats 4000000 in
set_option maxRecDepth 100000 in
theorem t_X10_pays {g : z_G} {K : z_K} (n : Nat) {v : Int32} {S' : z_Stt} (cx : z_C g M_X10_pays 5 K) (ce : z_E' g M_X10_pays (z_P g (some (.int v)) S') K) (a0 : Int32) (a1 : Int32) (S : z_Stt) (h : f_X10_pays n a0 a1 S = some (v, S')) : z_At g M_X10_pays K 0 [some (.ref (z_ad g 0)), some (.int a0), some (.int a1)] [] (hp g S) := by
  unfold f_X10_pays at h
  refine z_aload_n cx rfl rfl dX10_pays_0 ?_
  refine z_iload_n cx rfl rfl dX10_pays_1 ?_
  refine z_iconst (v := 2) cx (by decide +kernel) dX10_pays_2 ?_
  obtain ⟨v1, S2, e3, h⟩ := g_bd_ex h
  refine q_cvi (As := [.int a0, .int 2]) cx mo_X10_isThingAndMemory mv_X10_isThingAndMemory z_cl10 rfl tb_518 (by decide) rfl (by decide) rfl rfl (Nat.le_of_ble_eq_true rfl) dX10_pays_3 (c_X10_isThingAndMemory a0 2 _ e3) ?_
  refine q_ifb_eq (tgt := 18) cx (by decide) dX10_pays_6 (fun c4 => ?_) (fun c4 => ?_)
  · have h := g_f (Bool.eq_false_iff.mp c4) h
    refine z_iconst (v := (-1)) cx (by decide +kernel) dX10_pays_18 ?_
    obtain ⟨rfl, rfl⟩ := g_some h
    exact z_ireturn cx ce rfl ⟨rfl, rfl⟩ dX10_pays_19
  · have h := g_t c4 h
    refine z_iload_n cx rfl rfl dX10_pays_9 ?_
    refine z_bipush (v := 99) cx (by decide +kernel) dX10_pays_10 ?_
    obtain ⟨v5, S6, e7, h⟩ := g_bd_ex h
    refine q_csi (As := [.int a1, .int 99]) cx mo_X10_within ms_X10_within tb_171 (by decide) rfl rfl (Nat.le_of_ble_eq_true rfl) dX10_pays_12 (c_X10_within a1 99 _ e7) ?_
    refine q_ifb_ne (tgt := 20) cx (by decide) dX10_pays_15 (fun c8 => ?_) (fun c8 => ?_)
    · have h := g_t c8 h
      refine z_aload_n cx rfl rfl dX10_pays_20 ?_
      refine z_iload_n cx rfl rfl dX10_pays_21 ?_
      refine z_bipush (v := 10) cx (by decide +kernel) dX10_pays_22 ?_
      refine z_idiv cx (by decide +kernel) dX10_pays_24 ?_
      refine z_iload_n cx rfl rfl dX10_pays_25 ?_
      refine z_bipush (v := 10) cx (by decide +kernel) dX10_pays_26 ?_
      refine z_irem cx (by decide +kernel) dX10_pays_28 ?_
      refine z_aload_n cx rfl rfl dX10_pays_29 ?_
      refine q_getF (k := 0) (n := 17) (r := 17) cx z_cl10 (j := 6) (by decide) tb_34 rfl (by decide) rfl rfl rfl dX10_pays_30 ?_
      obtain ⟨v9, S10, e11, h⟩ := g_bd_ex h
      refine q_cvi (As := [.int (a0 / 10), .int (a0 % 10), .ref (z_ad g 17)]) cx mo_X10_findOpen mv_X10_findOpen z_cl10 rfl tb_444 (by decide) rfl (by decide) rfl rfl (Nat.le_of_ble_eq_true rfl) dX10_pays_33 (c_X10_findOpen (a0 / 10) (a0 % 10) 17 _ wp4_17 e11) ?_
      refine q_ifb_ne (tgt := 42) cx (by decide) dX10_pays_36 (fun c12 => ?_) (fun c12 => ?_)
      · have h := g_t c12 h
        refine z_aload_n cx rfl rfl dX10_pays_42 ?_
        refine z_aload_n cx rfl rfl dX10_pays_43 ?_
        refine q_getF (k := 0) (n := 17) (r := 17) cx z_cl10 (j := 6) (by decide) tb_34 rfl (by decide) rfl rfl rfl dX10_pays_44 ?_
        refine z_iload_n cx rfl rfl dX10_pays_47 ?_
        refine z_bipush (v := 10) cx (by decide +kernel) dX10_pays_48 ?_
        refine z_idiv cx (by decide +kernel) dX10_pays_50 ?_
        refine z_iload_n cx rfl rfl dX10_pays_51 ?_
        obtain ⟨v13, S14, e15, h⟩ := g_bd_ex h
        refine q_cvi (As := [.ref (z_ad g 17), .int (a0 / 10), .int a1]) cx mo_X10_paysBy mv_X10_paysBy z_cl10 rfl tb_522 (by decide) rfl (by decide) rfl rfl (Nat.le_of_ble_eq_true rfl) dX10_pays_52 (c_X10_paysBy 17 (a0 / 10) a1 _ wp4_17 e15) ?_
        refine q_ifb_eq (tgt := 62) cx (by decide) dX10_pays_55 (fun c16 => ?_) (fun c16 => ?_)
        · have h := g_f (Bool.eq_false_iff.mp c16) h
          refine z_iconst (v := 0) cx (by decide +kernel) dX10_pays_62 ?_
          obtain ⟨rfl, rfl⟩ := g_some h
          exact z_ireturn cx ce rfl ⟨rfl, rfl⟩ dX10_pays_63
        · have h := g_t c16 h
          refine z_iconst (v := 1) cx (by decide +kernel) dX10_pays_58 ?_
          refine z_goto (tgt := 63) cx (by decide) dX10_pays_59 ?_
          obtain ⟨rfl, rfl⟩ := g_some h
          exact z_ireturn cx ce rfl ⟨rfl, rfl⟩ dX10_pays_63
      · have h := g_f (Bool.eq_false_iff.mp c12) h
        refine z_bipush (v := (-2)) cx (by decide +kernel) dX10_pays_39 ?_
        obtain ⟨rfl, rfl⟩ := g_some h
        exact z_ireturn cx ce rfl ⟨rfl, rfl⟩ dX10_pays_41
    · have h := g_f (Bool.eq_false_iff.mp c8) h
      refine z_iconst (v := (-1)) cx (by decide +kernel) dX10_pays_18 ?_
      obtain ⟨rfl, rfl⟩ := g_some h
      exact z_ireturn cx ce rfl ⟨rfl, rfl⟩ dX10_pays_19
theorem c_X10_pays {g : z_G} {n : Nat} (a0 : Int32) (a1 : Int32) (S : z_Stt) {v : Int32} {S' : z_Stt} (h : f_X10_pays n a0 a1 S = some (v, S')) : z_Ct g M_X10_pays 5 [.ref (z_ad g 0), .int a0, .int a1] (hp g S) (z_P g (some (.int v)) S') :=
  z_Ct.of (by decide +kernel) rfl (Nat.le_of_ble_eq_true rfl) (fun K cx ce => q_weak (L' := [some (.ref (z_ad g 0)), some (.int a0), some (.int a1)]) (z_wk_s (z_wk_s (z_wk_s (z_wk_0)))) (t_X10_pays n cx ce a0 a1 S h))
abbrev M_X10_worth : z_M := (RX10, yX10_worth, cX10_worth, 6, some .long)
theorem mo_X10_worth : z_mo M_X10_worth 3 := ⟨tb_559, tb_2, rfl, ⟨by decide +kernel, by decide +kernel⟩, by decide +kernel, by decide⟩
theorem mv_X10_worth : z_mv M_X10_worth := ⟨tb_557, tb_558⟩
def f_X10_worth (n : Nat) (a0 : Int32) (a1 : Int32) (a2 : Int32) (S : z_Stt) : Option (Int64 × z_Stt) :=
  g_bd (f_X10_isThingAndMemory a0 2 S) fun v1 S2 =>
  if v1 = true then
    g_bd (f_X10_within a1 99 S2) fun v5 S6 =>
    if v5 = true then
      g_bd (f_X10_within a2 1 S6) fun v9 S10 =>
      if v9 = true then
        g_bd (f_X10_findOpen n (a0 / 10) (a0 % 10) 17 S10) fun v13 S14 =>
        if v13 = true then
          g_bd (f_X9_ofThing 3 (a0 / 10) S14) fun v17 S18 =>
          g_bd (f_X10_wayBack a1 S18) fun v20 S21 =>
          g_bd (f_X4_become n 17 (((S18.2.1 1700) * (Int32.toInt64 v17)) - ((Int32.toInt64 v20) * (S21.2.1 1701))) (S21.2.1 1701) S21) fun v23 S24 =>
          g_bd (f_X4_part 17 a2 S24) fun v26 S27 =>
          some (v26, S27)
        else
          some ((-2), S14)
      else
        some ((-9223372036854775808), S10)
    else
      some ((-9223372036854775808), S6)
  else
    some ((-9223372036854775808), S2)
set_option maxHeartbeats 4000000 in
set_option maxRecDepth 100000 in
theorem t_X10_worth {g : z_G} {K : z_K} (n : Nat) {v : Int64} {S' : z_Stt} (cx : z_C g M_X10_worth 5 K) (ce : z_E' g M_X10_worth (z_P g (some (.long v)) S') K) (a0 : Int32) (a1 : Int32) (a2 : Int32) (S : z_Stt) (h : f_X10_worth n a0 a1 a2 S = some (v, S')) : z_At g M_X10_worth K 0 [some (.ref (z_ad g 0)), some (.int a0), some (.int a1), some (.int a2), none, none] [] (hp g S) := by
  unfold f_X10_worth at h
  refine z_aload_n cx rfl rfl dX10_worth_0 ?_
  refine z_iload_n cx rfl rfl dX10_worth_1 ?_
  refine z_iconst (v := 2) cx (by decide +kernel) dX10_worth_2 ?_
  obtain ⟨v1, S2, e3, h⟩ := g_bd_ex h
  refine q_cvi (As := [.int a0, .int 2]) cx mo_X10_isThingAndMemory mv_X10_isThingAndMemory z_cl10 rfl tb_518 (by decide) rfl (by decide) rfl rfl (Nat.le_of_ble_eq_true rfl) dX10_worth_3 (c_X10_isThingAndMemory a0 2 _ e3) ?_
  refine q_ifb_eq (tgt := 26) cx (by decide) dX10_worth_6 (fun c4 => ?_) (fun c4 => ?_)
  · have h := g_f (Bool.eq_false_iff.mp c4) h
    refine z_ldc2 cx tb_442 dX10_worth_26 ?_
    obtain ⟨rfl, rfl⟩ := g_some h
    exact z_lreturn cx ce rfl ⟨rfl, rfl⟩ dX10_worth_29
  · have h := g_t c4 h
    refine z_iload_n cx rfl rfl dX10_worth_9 ?_
    refine z_bipush (v := 99) cx (by decide +kernel) dX10_worth_10 ?_
    obtain ⟨v5, S6, e7, h⟩ := g_bd_ex h
    refine q_csi (As := [.int a1, .int 99]) cx mo_X10_within ms_X10_within tb_171 (by decide) rfl rfl (Nat.le_of_ble_eq_true rfl) dX10_worth_12 (c_X10_within a1 99 _ e7) ?_
    refine q_ifb_eq (tgt := 26) cx (by decide) dX10_worth_15 (fun c8 => ?_) (fun c8 => ?_)
    · have h := g_f (Bool.eq_false_iff.mp c8) h
      refine z_ldc2 cx tb_442 dX10_worth_26 ?_
      obtain ⟨rfl, rfl⟩ := g_some h
      exact z_lreturn cx ce rfl ⟨rfl, rfl⟩ dX10_worth_29
    · have h := g_t c8 h
      refine z_iload_n cx rfl rfl dX10_worth_18 ?_
      refine z_iconst (v := 1) cx (by decide +kernel) dX10_worth_19 ?_
      obtain ⟨v9, S10, e11, h⟩ := g_bd_ex h
      refine q_csi (As := [.int a2, .int 1]) cx mo_X10_within ms_X10_within tb_171 (by decide) rfl rfl (Nat.le_of_ble_eq_true rfl) dX10_worth_20 (c_X10_within a2 1 _ e11) ?_
      refine q_ifb_ne (tgt := 30) cx (by decide) dX10_worth_23 (fun c12 => ?_) (fun c12 => ?_)
      · have h := g_t c12 h
        refine z_aload_n cx rfl rfl dX10_worth_30 ?_
        refine z_iload_n cx rfl rfl dX10_worth_31 ?_
        refine z_bipush (v := 10) cx (by decide +kernel) dX10_worth_32 ?_
        refine z_idiv cx (by decide +kernel) dX10_worth_34 ?_
        refine z_iload_n cx rfl rfl dX10_worth_35 ?_
        refine z_bipush (v := 10) cx (by decide +kernel) dX10_worth_36 ?_
        refine z_irem cx (by decide +kernel) dX10_worth_38 ?_
        refine z_aload_n cx rfl rfl dX10_worth_39 ?_
        refine q_getF (k := 0) (n := 17) (r := 17) cx z_cl10 (j := 6) (by decide) tb_34 rfl (by decide) rfl rfl rfl dX10_worth_40 ?_
        obtain ⟨v13, S14, e15, h⟩ := g_bd_ex h
        refine q_cvi (As := [.int (a0 / 10), .int (a0 % 10), .ref (z_ad g 17)]) cx mo_X10_findOpen mv_X10_findOpen z_cl10 rfl tb_444 (by decide) rfl (by decide) rfl rfl (Nat.le_of_ble_eq_true rfl) dX10_worth_43 (c_X10_findOpen (a0 / 10) (a0 % 10) 17 _ wp4_17 e15) ?_
        refine q_ifb_ne (tgt := 53) cx (by decide) dX10_worth_46 (fun c16 => ?_) (fun c16 => ?_)
        · have h := g_t c16 h
          refine z_aload_n cx rfl rfl dX10_worth_53 ?_
          refine q_getF (k := 0) (n := 1) (r := 1) cx z_cl10 (j := 0) (by decide) tb_16 rfl (by decide) rfl rfl rfl dX10_worth_54 ?_
          refine z_iconst (v := 3) cx (by decide +kernel) dX10_worth_57 ?_
          refine z_iload_n cx rfl rfl dX10_worth_58 ?_
          refine z_bipush (v := 10) cx (by decide +kernel) dX10_worth_59 ?_
          refine z_idiv cx (by decide +kernel) dX10_worth_61 ?_
          obtain ⟨v17, S18, e19, h⟩ := g_bd_ex h
          refine q_cvi (As := [.int 3, .int (a0 / 10)]) cx mo_X9_ofThing mv_X9_ofThing z_cl9 rfl tb_449 (by decide) rfl (by decide) rfl rfl (Nat.le_of_ble_eq_true rfl) dX10_worth_62 (c_X9_ofThing 3 (a0 / 10) _ e19) ?_
          refine z_i2l cx dX10_worth_65 ?_
          refine z_lstore (L' := [some (.ref (z_ad g 0)), some (.int a0), some (.int a1), some (.int a2), some (.long (Int32.toInt64 v17)), none]) cx (by decide) rfl dX10_worth_66 ?_
          refine z_aload_n cx rfl rfl dX10_worth_68 ?_
          refine q_getF (k := 0) (n := 17) (r := 17) cx z_cl10 (j := 6) (by decide) tb_34 rfl (by decide) rfl rfl rfl dX10_worth_69 ?_
          refine z_aload_n cx rfl rfl dX10_worth_72 ?_
          refine q_getF (k := 0) (n := 17) (r := 17) cx z_cl10 (j := 6) (by decide) tb_34 rfl (by decide) rfl rfl rfl dX10_worth_73 ?_
          refine q_getJ (k := 17) (n := 1700) cx z_cl4 (j := 0) (by decide) tb_527 rfl (by decide) rfl rfl rfl dX10_worth_76 ?_
          refine z_lload cx rfl dX10_worth_79 ?_
          refine z_lmul cx dX10_worth_81 ?_
          refine z_aload_n cx rfl rfl dX10_worth_82 ?_
          refine z_iload_n cx rfl rfl dX10_worth_83 ?_
          obtain ⟨v20, S21, e22, h⟩ := g_bd_ex h
          refine q_cvi (As := [.int a1]) cx mo_X10_wayBack mv_X10_wayBack z_cl10 rfl tb_528 (by decide) rfl (by decide) rfl rfl (Nat.le_of_ble_eq_true rfl) dX10_worth_84 (c_X10_wayBack a1 _ e22) ?_
          refine z_i2l cx dX10_worth_87 ?_
          refine z_aload_n cx rfl rfl dX10_worth_88 ?_
          refine q_getF (k := 0) (n := 17) (r := 17) cx z_cl10 (j := 6) (by decide) tb_34 rfl (by decide) rfl rfl rfl dX10_worth_89 ?_
          refine q_getJ (k := 17) (n := 1701) cx z_cl4 (j := 1) (by decide) tb_526 rfl (by decide) rfl rfl rfl dX10_worth_92 ?_
          refine z_lmul cx dX10_worth_95 ?_
          refine z_lsub cx dX10_worth_96 ?_
          refine z_aload_n cx rfl rfl dX10_worth_97 ?_
          refine q_getF (k := 0) (n := 17) (r := 17) cx z_cl10 (j := 6) (by decide) tb_34 rfl (by decide) rfl rfl rfl dX10_worth_98 ?_
          refine q_getJ (k := 17) (n := 1701) cx z_cl4 (j := 1) (by decide) tb_526 rfl (by decide) rfl rfl rfl dX10_worth_101 ?_
          obtain ⟨v23, S24, e25, h⟩ := g_bd_ex h
          refine q_cvi (As := [.long (((S18.2.1 1700) * (Int32.toInt64 v17)) - ((Int32.toInt64 v20) * (S21.2.1 1701))), .long (S21.2.1 1701)]) cx mo_X4_become mv_X4_become z_cl4 rfl tb_454 (by decide) rfl (by decide) rfl rfl (Nat.le_of_ble_eq_true rfl) dX10_worth_104 (c_X4_become 17 (((S18.2.1 1700) * (Int32.toInt64 v17)) - ((Int32.toInt64 v20) * (S21.2.1 1701))) (S21.2.1 1701) _ wp4_17 e25) ?_
          refine z_pop cx rfl dX10_worth_107 ?_
          refine z_aload_n cx rfl rfl dX10_worth_108 ?_
          refine q_getF (k := 0) (n := 17) (r := 17) cx z_cl10 (j := 6) (by decide) tb_34 rfl (by decide) rfl rfl rfl dX10_worth_109 ?_
          refine z_iload_n cx rfl rfl dX10_worth_112 ?_
          obtain ⟨v26, S27, e28, h⟩ := g_bd_ex h
          refine q_cvl (As := [.int a2]) cx mo_X4_part mv_X4_part z_cl4 rfl tb_476 (by decide) rfl (by decide) rfl rfl (Nat.le_of_ble_eq_true rfl) dX10_worth_113 (c_X4_part 17 a2 _ wp4_17 e28) ?_
          obtain ⟨rfl, rfl⟩ := g_some h
          exact z_lreturn cx ce rfl ⟨rfl, rfl⟩ dX10_worth_116
        · have h := g_f (Bool.eq_false_iff.mp c16) h
          refine z_ldc2 cx tb_443 dX10_worth_49 ?_
          obtain ⟨rfl, rfl⟩ := g_some h
          exact z_lreturn cx ce rfl ⟨rfl, rfl⟩ dX10_worth_52
      · have h := g_f (Bool.eq_false_iff.mp c12) h
        refine z_ldc2 cx tb_442 dX10_worth_26 ?_
        obtain ⟨rfl, rfl⟩ := g_some h
        exact z_lreturn cx ce rfl ⟨rfl, rfl⟩ dX10_worth_29
theorem c_X10_worth {g : z_G} {n : Nat} (a0 : Int32) (a1 : Int32) (a2 : Int32) (S : z_Stt) {v : Int64} {S' : z_Stt} (h : f_X10_worth n a0 a1 a2 S = some (v, S')) : z_Ct g M_X10_worth 5 [.ref (z_ad g 0), .int a0, .int a1, .int a2] (hp g S) (z_P g (some (.long v)) S') :=
  z_Ct.of (by decide +kernel) rfl (Nat.le_of_ble_eq_true rfl) (fun K cx ce => q_weak (L' := [some (.ref (z_ad g 0)), some (.int a0), some (.int a1), some (.int a2), none, none]) (z_wk_s (z_wk_s (z_wk_s (z_wk_s (z_wk_e (z_wk_e (z_wk_0))))))) (t_X10_worth n cx ce a0 a1 a2 S h))
abbrev M_X10_howFar : z_M := (RX10, yX10_howFar, cX10_howFar, 3, some .int)
theorem mo_X10_howFar : z_mo M_X10_howFar 1 := ⟨tb_567, tb_2, rfl, ⟨by decide +kernel, by decide +kernel⟩, by decide +kernel, by decide⟩
theorem mv_X10_howFar : z_mv M_X10_howFar := ⟨tb_565, tb_566⟩
def f_X10_howFar_36 (n : Nat) : Nat → Int32 → Int32 → z_Stt → Option (Int32 × z_Stt)
  | 0, _, _, _ => none
  | m + 1, x1, x2, S =>
    if x2 < 0 then
      some ((-2), S)
    else
      g_bd (f_X10_paysBy 17 (x1 / 10) x2 S) fun v2 S3 =>
      if v2 = true then
        some (x2, S3)
      else
        f_X10_howFar_36 n m x1 (x2 + (-1)) S3
set_option maxHeartbeats 4000000 in
set_option maxRecDepth 100000 in
theorem t_X10_howFar_36 {g : z_G} {K : z_K} (n : Nat) {v : Int32} {S' : z_Stt} (cx : z_C g M_X10_howFar 5 K) (ce : z_E' g M_X10_howFar (z_P g (some (.int v)) S') K) : ∀ (m : Nat) (x1 : Int32) (x2 : Int32) (S : z_Stt) (h : f_X10_howFar_36 n m x1 x2 S = some (v, S')), z_At g M_X10_howFar K 36 [some (.ref (z_ad g 0)), some (.int x1), some (.int x2)] [] (hp g S) := by
  intro m
  induction m with
  | zero => intro x1 x2 S h; simp [f_X10_howFar_36] at h
  | succ m ih =>
    intro x1 x2 S h
    rw [f_X10_howFar_36] at h
    refine z_iload_n cx rfl rfl dX10_howFar_36 ?_
    refine z_if_lt (tgt := 64) cx (by decide) dX10_howFar_37 (fun c1 => ?_) (fun c1 => ?_)
    · have h := g_t c1 h
      refine z_bipush (v := (-2)) cx (by decide +kernel) dX10_howFar_64 ?_
      obtain ⟨rfl, rfl⟩ := g_some h
      exact z_ireturn cx ce rfl ⟨rfl, rfl⟩ dX10_howFar_66
    · have h := g_f c1 h
      refine z_aload_n cx rfl rfl dX10_howFar_40 ?_
      refine z_aload_n cx rfl rfl dX10_howFar_41 ?_
      refine q_getF (k := 0) (n := 17) (r := 17) cx z_cl10 (j := 6) (by decide) tb_34 rfl (by decide) rfl rfl rfl dX10_howFar_42 ?_
      refine z_iload_n cx rfl rfl dX10_howFar_45 ?_
      refine z_bipush (v := 10) cx (by decide +kernel) dX10_howFar_46 ?_
      refine z_idiv cx (by decide +kernel) dX10_howFar_48 ?_
      refine z_iload_n cx rfl rfl dX10_howFar_49 ?_
      obtain ⟨v2, S3, e4, h⟩ := g_bd_ex h
      refine q_cvi (As := [.ref (z_ad g 17), .int (x1 / 10), .int x2]) cx mo_X10_paysBy mv_X10_paysBy z_cl10 rfl tb_522 (by decide) rfl (by decide) rfl rfl (Nat.le_of_ble_eq_true rfl) dX10_howFar_50 (c_X10_paysBy 17 (x1 / 10) x2 _ wp4_17 e4) ?_
      refine q_ifb_eq (tgt := 58) cx (by decide) dX10_howFar_53 (fun c5 => ?_) (fun c5 => ?_)
      · have h := g_f (Bool.eq_false_iff.mp c5) h
        refine z_iinc (c := (-1)) (L' := [some (.ref (z_ad g 0)), some (.int x1), some (.int (x2 + (-1)))]) cx rfl (by decide +kernel) (by decide) rfl dX10_howFar_58 ?_
        refine z_goto (tgt := 36) cx (by decide) dX10_howFar_61 ?_
        exact q_weak (z_wk_s (z_wk_s (z_wk_s (z_wk_0)))) (ih x1 (x2 + (-1)) S3 h)
      · have h := g_t c5 h
        refine z_iload_n cx rfl rfl dX10_howFar_56 ?_
        obtain ⟨rfl, rfl⟩ := g_some h
        exact z_ireturn cx ce rfl ⟨rfl, rfl⟩ dX10_howFar_57
def f_X10_howFar (n : Nat) (a0 : Int32) (S : z_Stt) : Option (Int32 × z_Stt) :=
  g_bd (f_X10_isThingAndMemory a0 2 S) fun v1 S2 =>
  if v1 = true then
    g_bd (f_X10_findOpen n (a0 / 10) (a0 % 10) 17 S2) fun v5 S6 =>
    if v5 = true then
      f_X10_howFar_36 n n a0 99 S6
    else
      some ((-2), S6)
  else
    some ((-1), S2)
set_option maxHeartbeats 4000000 in
set_option maxRecDepth 100000 in
theorem t_X10_howFar {g : z_G} {K : z_K} (n : Nat) {v : Int32} {S' : z_Stt} (cx : z_C g M_X10_howFar 5 K) (ce : z_E' g M_X10_howFar (z_P g (some (.int v)) S') K) (a0 : Int32) (S : z_Stt) (h : f_X10_howFar n a0 S = some (v, S')) : z_At g M_X10_howFar K 0 [some (.ref (z_ad g 0)), some (.int a0), none] [] (hp g S) := by
  unfold f_X10_howFar at h
  refine z_aload_n cx rfl rfl dX10_howFar_0 ?_
  refine z_iload_n cx rfl rfl dX10_howFar_1 ?_
  refine z_iconst (v := 2) cx (by decide +kernel) dX10_howFar_2 ?_
  obtain ⟨v1, S2, e3, h⟩ := g_bd_ex h
  refine q_cvi (As := [.int a0, .int 2]) cx mo_X10_isThingAndMemory mv_X10_isThingAndMemory z_cl10 rfl tb_518 (by decide) rfl (by decide) rfl rfl (Nat.le_of_ble_eq_true rfl) dX10_howFar_3 (c_X10_isThingAndMemory a0 2 _ e3) ?_
  refine q_ifb_ne (tgt := 11) cx (by decide) dX10_howFar_6 (fun c4 => ?_) (fun c4 => ?_)
  · have h := g_t c4 h
    refine z_aload_n cx rfl rfl dX10_howFar_11 ?_
    refine z_iload_n cx rfl rfl dX10_howFar_12 ?_
    refine z_bipush (v := 10) cx (by decide +kernel) dX10_howFar_13 ?_
    refine z_idiv cx (by decide +kernel) dX10_howFar_15 ?_
    refine z_iload_n cx rfl rfl dX10_howFar_16 ?_
    refine z_bipush (v := 10) cx (by decide +kernel) dX10_howFar_17 ?_
    refine z_irem cx (by decide +kernel) dX10_howFar_19 ?_
    refine z_aload_n cx rfl rfl dX10_howFar_20 ?_
    refine q_getF (k := 0) (n := 17) (r := 17) cx z_cl10 (j := 6) (by decide) tb_34 rfl (by decide) rfl rfl rfl dX10_howFar_21 ?_
    obtain ⟨v5, S6, e7, h⟩ := g_bd_ex h
    refine q_cvi (As := [.int (a0 / 10), .int (a0 % 10), .ref (z_ad g 17)]) cx mo_X10_findOpen mv_X10_findOpen z_cl10 rfl tb_444 (by decide) rfl (by decide) rfl rfl (Nat.le_of_ble_eq_true rfl) dX10_howFar_24 (c_X10_findOpen (a0 / 10) (a0 % 10) 17 _ wp4_17 e7) ?_
    refine q_ifb_ne (tgt := 33) cx (by decide) dX10_howFar_27 (fun c8 => ?_) (fun c8 => ?_)
    · have h := g_t c8 h
      refine z_bipush (v := 99) cx (by decide +kernel) dX10_howFar_33 ?_
      refine z_istore_n (L' := [some (.ref (z_ad g 0)), some (.int a0), some (.int 99)]) cx rfl (by decide) rfl dX10_howFar_35 ?_
      exact q_weak (z_wk_s (z_wk_s (z_wk_s (z_wk_0)))) (t_X10_howFar_36 n cx ce n a0 99 S6 h)
    · have h := g_f (Bool.eq_false_iff.mp c8) h
      refine z_bipush (v := (-2)) cx (by decide +kernel) dX10_howFar_30 ?_
      obtain ⟨rfl, rfl⟩ := g_some h
      exact z_ireturn cx ce rfl ⟨rfl, rfl⟩ dX10_howFar_32
  · have h := g_f (Bool.eq_false_iff.mp c4) h
    refine z_iconst (v := (-1)) cx (by decide +kernel) dX10_howFar_9 ?_
    obtain ⟨rfl, rfl⟩ := g_some h
    exact z_ireturn cx ce rfl ⟨rfl, rfl⟩ dX10_howFar_10
theorem c_X10_howFar {g : z_G} {n : Nat} (a0 : Int32) (S : z_Stt) {v : Int32} {S' : z_Stt} (h : f_X10_howFar n a0 S = some (v, S')) : z_Ct g M_X10_howFar 5 [.ref (z_ad g 0), .int a0] (hp g S) (z_P g (some (.int v)) S') :=
  z_Ct.of (by decide +kernel) rfl (Nat.le_of_ble_eq_true rfl) (fun K cx ce => q_weak (L' := [some (.ref (z_ad g 0)), some (.int a0), none]) (z_wk_s (z_wk_s (z_wk_e (z_wk_0)))) (t_X10_howFar n cx ce a0 S h))
abbrev M_X10_areThings : z_M := (RX10, yX10_areThings, cX10_areThings, 2, some .boolean)
theorem mo_X10_areThings : z_mo M_X10_areThings 1 := ⟨tb_584, tb_2, rfl, ⟨by decide +kernel, by decide +kernel⟩, by decide +kernel, by decide⟩
theorem mv_X10_areThings : z_mv M_X10_areThings := ⟨tb_582, tb_583⟩
def f_X10_areThings (a0 : Int32) (S : z_Stt) : Option (Bool × z_Stt) :=
  if a0 < 0 then
    some (false, S)
  else
    if a0 >>> ((S.1 101) &&& 31) = 0 then
      some (true, S)
    else
      some (false, S)
set_option maxHeartbeats 4000000 in
set_option maxRecDepth 100000 in
theorem t_X10_areThings {g : z_G} {K : z_K} {v : Bool} {S' : z_Stt} (cx : z_C g M_X10_areThings 0 K) (ce : z_E' g M_X10_areThings (z_P g (some (.int (bI v))) S') K) (a0 : Int32) (S : z_Stt) (h : f_X10_areThings a0 S = some (v, S')) : z_At g M_X10_areThings K 0 [some (.ref (z_ad g 0)), some (.int a0)] [] (hp g S) := by
  unfold f_X10_areThings at h
  refine z_iload_n cx rfl rfl dX10_areThings_0 ?_
  refine z_if_lt (tgt := 20) cx (by decide) dX10_areThings_1 (fun c1 => ?_) (fun c1 => ?_)
  · have h := g_t c1 h
    refine z_iconst (v := 0) cx (by decide +kernel) dX10_areThings_20 ?_
    obtain ⟨rfl, rfl⟩ := g_some h
    exact z_zreturn cx ce rfl (by decide +kernel) ⟨rfl, rfl⟩ dX10_areThings_21
  · have h := g_f c1 h
    refine z_iload_n cx rfl rfl dX10_areThings_4 ?_
    refine z_aload_n cx rfl rfl dX10_areThings_5 ?_
    refine q_getF (k := 0) (n := 1) (r := 1) cx z_cl10 (j := 0) (by decide) tb_16 rfl (by decide) rfl rfl rfl dX10_areThings_6 ?_
    refine q_getI (k := 1) (n := 101) cx z_cl9 (j := 1) (by decide) tb_170 rfl (by decide) rfl rfl rfl dX10_areThings_9 ?_
    refine z_ishr cx dX10_areThings_12 ?_
    refine z_if_ne (tgt := 20) cx (by decide) dX10_areThings_13 (fun c2 => ?_) (fun c2 => ?_)
    · have h := g_f c2 h
      refine z_iconst (v := 0) cx (by decide +kernel) dX10_areThings_20 ?_
      obtain ⟨rfl, rfl⟩ := g_some h
      exact z_zreturn cx ce rfl (by decide +kernel) ⟨rfl, rfl⟩ dX10_areThings_21
    · have h := g_t c2 h
      refine z_iconst (v := 1) cx (by decide +kernel) dX10_areThings_16 ?_
      refine z_goto (tgt := 21) cx (by decide) dX10_areThings_17 ?_
      obtain ⟨rfl, rfl⟩ := g_some h
      exact z_zreturn cx ce rfl (by decide +kernel) ⟨rfl, rfl⟩ dX10_areThings_21
theorem c_X10_areThings {g : z_G} (a0 : Int32) (S : z_Stt) {v : Bool} {S' : z_Stt} (h : f_X10_areThings a0 S = some (v, S')) : z_Ct g M_X10_areThings 0 [.ref (z_ad g 0), .int a0] (hp g S) (z_P g (some (.int (bI v))) S') :=
  z_Ct.of (by decide +kernel) rfl (Nat.le_of_ble_eq_true rfl) (fun K cx ce => q_weak (L' := [some (.ref (z_ad g 0)), some (.int a0)]) (z_wk_s (z_wk_s (z_wk_0))) (t_X10_areThings cx ce a0 S h))
abbrev M_X10_isDoubt : z_M := (RX10, yX10_isDoubt, cX10_isDoubt, 3, some .boolean)
theorem mo_X10_isDoubt : z_mo M_X10_isDoubt 1 := ⟨tb_580, tb_2, rfl, ⟨by decide +kernel, by decide +kernel⟩, by decide +kernel, by decide⟩
theorem mv_X10_isDoubt : z_mv M_X10_isDoubt := ⟨tb_578, tb_579⟩
def f_X10_isDoubt (a0 : Int32) (S : z_Stt) : Option (Bool × z_Stt) :=
  if a0 < 0 then
    some (false, S)
  else
    if (a0 >>> (6 &&& 31)) &&& ((a0 &&& 63) ^^^ (-1)) = 0 then
      g_bd (f_X10_areThings (a0 &&& 63) S) fun v3 S4 =>
      if v3 = true then
        g_bd (f_J6_bitCount_0f7a4 (a0 &&& 63) S4) fun v7 S8 =>
        if 4 < v7 then
          some (false, S8)
        else
          some (true, S8)
      else
        some (false, S4)
    else
      some (false, S)
set_option maxHeartbeats 4000000 in
set_option maxRecDepth 100000 in
theorem t_X10_isDoubt {g : z_G} {K : z_K} {v : Bool} {S' : z_Stt} (cx : z_C g M_X10_isDoubt 1 K) (ce : z_E' g M_X10_isDoubt (z_P g (some (.int (bI v))) S') K) (a0 : Int32) (S : z_Stt) (h : f_X10_isDoubt a0 S = some (v, S')) : z_At g M_X10_isDoubt K 0 [some (.ref (z_ad g 0)), some (.int a0), none] [] (hp g S) := by
  unfold f_X10_isDoubt at h
  refine z_iload_n cx rfl rfl dX10_isDoubt_0 ?_
  refine z_bipush (v := 63) cx (by decide +kernel) dX10_isDoubt_1 ?_
  refine z_iand cx dX10_isDoubt_3 ?_
  refine z_istore_n (L' := [some (.ref (z_ad g 0)), some (.int a0), some (.int (a0 &&& 63))]) cx rfl (by decide) rfl dX10_isDoubt_4 ?_
  refine z_iload_n cx rfl rfl dX10_isDoubt_5 ?_
  refine z_if_lt (tgt := 40) cx (by decide) dX10_isDoubt_6 (fun c1 => ?_) (fun c1 => ?_)
  · have h := g_t c1 h
    refine z_iconst (v := 0) cx (by decide +kernel) dX10_isDoubt_40 ?_
    obtain ⟨rfl, rfl⟩ := g_some h
    exact z_zreturn cx ce rfl (by decide +kernel) ⟨rfl, rfl⟩ dX10_isDoubt_41
  · have h := g_f c1 h
    refine z_iload_n cx rfl rfl dX10_isDoubt_9 ?_
    refine z_bipush (v := 6) cx (by decide +kernel) dX10_isDoubt_10 ?_
    refine z_ishr cx dX10_isDoubt_12 ?_
    refine z_iload_n cx rfl rfl dX10_isDoubt_13 ?_
    refine z_iconst (v := (-1)) cx (by decide +kernel) dX10_isDoubt_14 ?_
    refine z_ixor cx dX10_isDoubt_15 ?_
    refine z_iand cx dX10_isDoubt_16 ?_
    refine z_if_ne (tgt := 40) cx (by decide) dX10_isDoubt_17 (fun c2 => ?_) (fun c2 => ?_)
    · have h := g_f c2 h
      refine z_iconst (v := 0) cx (by decide +kernel) dX10_isDoubt_40 ?_
      obtain ⟨rfl, rfl⟩ := g_some h
      exact z_zreturn cx ce rfl (by decide +kernel) ⟨rfl, rfl⟩ dX10_isDoubt_41
    · have h := g_t c2 h
      refine z_aload_n cx rfl rfl dX10_isDoubt_20 ?_
      refine z_iload_n cx rfl rfl dX10_isDoubt_21 ?_
      obtain ⟨v3, S4, e5, h⟩ := g_bd_ex h
      refine q_cvi (As := [.int (a0 &&& 63)]) cx mo_X10_areThings mv_X10_areThings z_cl10 rfl tb_581 (by decide) rfl (by decide) rfl rfl (Nat.le_of_ble_eq_true rfl) dX10_isDoubt_22 (c_X10_areThings (a0 &&& 63) _ e5) ?_
      refine q_ifb_eq (tgt := 40) cx (by decide) dX10_isDoubt_25 (fun c6 => ?_) (fun c6 => ?_)
      · have h := g_f (Bool.eq_false_iff.mp c6) h
        refine z_iconst (v := 0) cx (by decide +kernel) dX10_isDoubt_40 ?_
        obtain ⟨rfl, rfl⟩ := g_some h
        exact z_zreturn cx ce rfl (by decide +kernel) ⟨rfl, rfl⟩ dX10_isDoubt_41
      · have h := g_t c6 h
        refine z_iload_n cx rfl rfl dX10_isDoubt_28 ?_
        obtain ⟨v7, S8, e9, h⟩ := g_bd_ex h
        refine q_csi (As := [.int (a0 &&& 63)]) cx mo_J6_bitCount_0f7a4 ms_J6_bitCount_0f7a4 tb_585 (by decide) rfl rfl (Nat.le_of_ble_eq_true rfl) dX10_isDoubt_29 (c_J6_bitCount_0f7a4 (a0 &&& 63) _ e9) ?_
        refine z_iconst (v := 4) cx (by decide +kernel) dX10_isDoubt_32 ?_
        refine z_icmp_gt (tgt := 40) cx (by decide) dX10_isDoubt_33 (fun c10 => ?_) (fun c10 => ?_)
        · have h := g_t c10 h
          refine z_iconst (v := 0) cx (by decide +kernel) dX10_isDoubt_40 ?_
          obtain ⟨rfl, rfl⟩ := g_some h
          exact z_zreturn cx ce rfl (by decide +kernel) ⟨rfl, rfl⟩ dX10_isDoubt_41
        · have h := g_f c10 h
          refine z_iconst (v := 1) cx (by decide +kernel) dX10_isDoubt_36 ?_
          refine z_goto (tgt := 41) cx (by decide) dX10_isDoubt_37 ?_
          obtain ⟨rfl, rfl⟩ := g_some h
          exact z_zreturn cx ce rfl (by decide +kernel) ⟨rfl, rfl⟩ dX10_isDoubt_41
theorem c_X10_isDoubt {g : z_G} (a0 : Int32) (S : z_Stt) {v : Bool} {S' : z_Stt} (h : f_X10_isDoubt a0 S = some (v, S')) : z_Ct g M_X10_isDoubt 1 [.ref (z_ad g 0), .int a0] (hp g S) (z_P g (some (.int (bI v))) S') :=
  z_Ct.of (by decide +kernel) rfl (Nat.le_of_ble_eq_true rfl) (fun K cx ce => q_weak (L' := [some (.ref (z_ad g 0)), some (.int a0), none]) (z_wk_s (z_wk_s (z_wk_e (z_wk_0)))) (t_X10_isDoubt cx ce a0 S h))
abbrev M_X10_findDoubts : z_M := (RX10, yX10_findDoubts, cX10_findDoubts, 4, some .boolean)
theorem mo_X10_findDoubts : z_mo M_X10_findDoubts 1 := ⟨tb_595, tb_2, rfl, ⟨by decide +kernel, by decide +kernel⟩, by decide +kernel, by decide⟩
theorem mv_X10_findDoubts : z_mv M_X10_findDoubts := ⟨tb_593, tb_594⟩
def f_X10_findDoubts_85 (n : Nat) (k15 : Int32 → Int32 → Int32 → z_Stt → Option (Bool × z_Stt)) (x1 : Int32) (x2 : Int32) (x3 : Int32) (S : z_Stt) : Option (Bool × z_Stt) :=
  k15 x1 x2 (x3 + 1) S
set_option maxHeartbeats 4000000 in
set_option maxRecDepth 100000 in
theorem t_X10_findDoubts_85 {g : z_G} {K : z_K} (n : Nat) {v : Bool} {S' : z_Stt} (cx : z_C g M_X10_findDoubts 5 K) (ce : z_E' g M_X10_findDoubts (z_P g (some (.int (bI v))) S') K) (k15 : Int32 → Int32 → Int32 → z_Stt → Option (Bool × z_Stt)) (hk15 : ∀ (x1 : Int32) (x2 : Int32) (x3 : Int32) (S : z_Stt), k15 x1 x2 x3 S = some (v, S') → z_At g M_X10_findDoubts K 15 [some (.ref (z_ad g 0)), some (.int x1), some (.int x2), some (.int x3)] [] (hp g S)) (x1 : Int32) (x2 : Int32) (x3 : Int32) (S : z_Stt) (h : f_X10_findDoubts_85 n k15 x1 x2 x3 S = some (v, S')) : z_At g M_X10_findDoubts K 85 [some (.ref (z_ad g 0)), some (.int x1), some (.int x2), some (.int x3)] [] (hp g S) := by
  unfold f_X10_findDoubts_85 at h
  refine z_iinc (c := 1) (L' := [some (.ref (z_ad g 0)), some (.int x1), some (.int x2), some (.int (x3 + 1))]) cx rfl (by decide +kernel) (by decide) rfl dX10_findDoubts_85 ?_
  refine z_goto (tgt := 15) cx (by decide) dX10_findDoubts_88 ?_
  exact q_weak (z_wk_s (z_wk_s (z_wk_s (z_wk_s (z_wk_0))))) (hk15 x1 x2 (x3 + 1) S h)
def f_X10_findDoubts_66 (n : Nat) (k15 : Int32 → Int32 → Int32 → z_Stt → Option (Bool × z_Stt)) (x1 : Int32) (x3 : Int32) (y0 : Int32) (S : z_Stt) : Option (Bool × z_Stt) :=
  g_bd (f_X9_ofThing 3 x3 S) fun v1 S2 =>
  if ¬ (x3 < 0 ∨ 6 ≤ x3.toNatClampNeg) then
    g_let (sA S2 20 (upd (S2.2.2.1 20) x3.toNatClampNeg v1)) fun S5 =>
    f_X10_findDoubts_85 n k15 x1 y0 x3 S5
  else none
set_option maxHeartbeats 4000000 in
set_option maxRecDepth 100000 in
theorem t_X10_findDoubts_66 {g : z_G} {K : z_K} (n : Nat) {v : Bool} {S' : z_Stt} (cx : z_C g M_X10_findDoubts 5 K) (ce : z_E' g M_X10_findDoubts (z_P g (some (.int (bI v))) S') K) (k15 : Int32 → Int32 → Int32 → z_Stt → Option (Bool × z_Stt)) (hk15 : ∀ (x1 : Int32) (x2 : Int32) (x3 : Int32) (S : z_Stt), k15 x1 x2 x3 S = some (v, S') → z_At g M_X10_findDoubts K 15 [some (.ref (z_ad g 0)), some (.int x1), some (.int x2), some (.int x3)] [] (hp g S)) (x1 : Int32) (x3 : Int32) (y0 : Int32) (S : z_Stt) (h : f_X10_findDoubts_66 n k15 x1 x3 y0 S = some (v, S')) : z_At g M_X10_findDoubts K 66 [some (.ref (z_ad g 0)), some (.int x1), none, some (.int x3)] [.int y0] (hp g S) := by
  unfold f_X10_findDoubts_66 at h
  refine z_istore_n (L' := [some (.ref (z_ad g 0)), some (.int x1), some (.int y0), some (.int x3)]) cx rfl (by decide) rfl dX10_findDoubts_66 ?_
  refine z_aload_n cx rfl rfl dX10_findDoubts_67 ?_
  refine q_getF (k := 0) (n := 18) (r := 18) cx z_cl10 (j := 7) (by decide) tb_38 rfl (by decide) rfl rfl rfl dX10_findDoubts_68 ?_
  refine q_getF (k := 18) (n := 20) (r := 2) cx z_cl2 (j := 2) (by decide) tb_598 rfl (by decide) rfl rfl rfl dX10_findDoubts_71 ?_
  refine z_iload_n cx rfl rfl dX10_findDoubts_74 ?_
  refine z_aload_n cx rfl rfl dX10_findDoubts_75 ?_
  refine q_getF (k := 0) (n := 1) (r := 1) cx z_cl10 (j := 0) (by decide) tb_16 rfl (by decide) rfl rfl rfl dX10_findDoubts_76 ?_
  refine z_iconst (v := 3) cx (by decide +kernel) dX10_findDoubts_79 ?_
  refine z_iload_n cx rfl rfl dX10_findDoubts_80 ?_
  obtain ⟨v1, S2, e3, h⟩ := g_bd_ex h
  refine q_cvi (As := [.int 3, .int x3]) cx mo_X9_ofThing mv_X9_ofThing z_cl9 rfl tb_449 (by decide) rfl (by decide) rfl rfl (Nat.le_of_ble_eq_true rfl) dX10_findDoubts_81 (c_X9_ofThing 3 x3 _ e3) ?_
  obtain ⟨c4, h⟩ := g_if h
  refine q_iast cx (by decide) rfl c4 dX10_findDoubts_84 ?_
  obtain ⟨S5, e6, h⟩ := g_let_ex h
  rw [← e6]
  exact q_weak (z_wk_s (z_wk_s (z_wk_s (z_wk_s (z_wk_0))))) (t_X10_findDoubts_85 n cx ce k15 hk15 x1 y0 x3 S5 h)
def f_X10_findDoubts_65 (n : Nat) (k15 : Int32 → Int32 → Int32 → z_Stt → Option (Bool × z_Stt)) (x1 : Int32) (x3 : Int32) (S : z_Stt) : Option (Bool × z_Stt) :=
  f_X10_findDoubts_66 n k15 x1 x3 0 S
set_option maxHeartbeats 4000000 in
set_option maxRecDepth 100000 in
theorem t_X10_findDoubts_65 {g : z_G} {K : z_K} (n : Nat) {v : Bool} {S' : z_Stt} (cx : z_C g M_X10_findDoubts 5 K) (ce : z_E' g M_X10_findDoubts (z_P g (some (.int (bI v))) S') K) (k15 : Int32 → Int32 → Int32 → z_Stt → Option (Bool × z_Stt)) (hk15 : ∀ (x1 : Int32) (x2 : Int32) (x3 : Int32) (S : z_Stt), k15 x1 x2 x3 S = some (v, S') → z_At g M_X10_findDoubts K 15 [some (.ref (z_ad g 0)), some (.int x1), some (.int x2), some (.int x3)] [] (hp g S)) (x1 : Int32) (x3 : Int32) (S : z_Stt) (h : f_X10_findDoubts_65 n k15 x1 x3 S = some (v, S')) : z_At g M_X10_findDoubts K 65 [some (.ref (z_ad g 0)), some (.int x1), none, some (.int x3)] [] (hp g S) := by
  unfold f_X10_findDoubts_65 at h
  refine z_iconst (v := 0) cx (by decide +kernel) dX10_findDoubts_65 ?_
  exact q_weak (z_wk_s (z_wk_s (z_wk_n (z_wk_s (z_wk_0))))) (t_X10_findDoubts_66 n cx ce k15 hk15 x1 x3 0 S h)
def f_X10_findDoubts_15 (n : Nat) : Nat → Int32 → Int32 → Int32 → z_Stt → Option (Bool × z_Stt)
  | 0, _, _, _, _ => none
  | m + 1, x1, x2, x3, S =>
    if 6 ≤ x3 then
      g_bd (f_X2_weigh n S) fun v2 S3 =>
      if x2 = 0 ∨ x2 = 1 then
        some (decide (x2 = 1), S3)
      else none
    else
      g_bd (f_X2_has x3 S) fun v5 S6 =>
      if v5 = true then
        if ¬ (x3 < 0 ∨ 6 ≤ x3.toNatClampNeg) then
          g_bd (f_X10_findOpen n x3 (((x1 >>> (6 &&& 31)) >>> (x3 &&& 31)) &&& 1) (22 + x3.toNatClampNeg) S6) fun v10 S11 =>
          if v10 = true then
            if x2 = 0 then
              f_X10_findDoubts_65 n (f_X10_findDoubts_15 n m) x1 x3 S11
            else
              f_X10_findDoubts_66 n (f_X10_findDoubts_15 n m) x1 x3 1 S11
          else
            f_X10_findDoubts_65 n (f_X10_findDoubts_15 n m) x1 x3 S11
        else none
      else
        f_X10_findDoubts_85 n (f_X10_findDoubts_15 n m) x1 x2 x3 S6
set_option maxHeartbeats 4000000 in
set_option maxRecDepth 100000 in
theorem t_X10_findDoubts_15 {g : z_G} {K : z_K} (n : Nat) {v : Bool} {S' : z_Stt} (cx : z_C g M_X10_findDoubts 5 K) (ce : z_E' g M_X10_findDoubts (z_P g (some (.int (bI v))) S') K) : ∀ (m : Nat) (x1 : Int32) (x2 : Int32) (x3 : Int32) (S : z_Stt) (h : f_X10_findDoubts_15 n m x1 x2 x3 S = some (v, S')), z_At g M_X10_findDoubts K 15 [some (.ref (z_ad g 0)), some (.int x1), some (.int x2), some (.int x3)] [] (hp g S) := by
  intro m
  induction m with
  | zero => intro x1 x2 x3 S h; simp [f_X10_findDoubts_15] at h
  | succ m ih =>
    intro x1 x2 x3 S h
    rw [f_X10_findDoubts_15] at h
    refine z_iload_n cx rfl rfl dX10_findDoubts_15 ?_
    refine z_bipush (v := 6) cx (by decide +kernel) dX10_findDoubts_16 ?_
    refine z_icmp_ge (tgt := 91) cx (by decide) dX10_findDoubts_18 (fun c1 => ?_) (fun c1 => ?_)
    · have h := g_t c1 h
      refine z_aload_n cx rfl rfl dX10_findDoubts_91 ?_
      refine q_getF (k := 0) (n := 18) (r := 18) cx z_cl10 (j := 7) (by decide) tb_38 rfl (by decide) rfl rfl rfl dX10_findDoubts_92 ?_
      obtain ⟨v2, S3, e4, h⟩ := g_bd_ex h
      refine q_cvv (As := []) cx mo_X2_weigh mv_X2_weigh z_cl2 rfl tb_603 (by decide) rfl (by decide) rfl rfl (Nat.le_of_ble_eq_true rfl) dX10_findDoubts_95 (c_X2_weigh  _ e4) ?_
      refine z_iload_n cx rfl rfl dX10_findDoubts_98 ?_
      obtain ⟨c01, h⟩ := g_if h
      obtain ⟨rfl, rfl⟩ := g_some h
      exact q_zret01 cx ce rfl c01 ⟨rfl, rfl⟩ dX10_findDoubts_99
    · have h := g_f c1 h
      refine z_aload_n cx rfl rfl dX10_findDoubts_21 ?_
      refine q_getF (k := 0) (n := 18) (r := 18) cx z_cl10 (j := 7) (by decide) tb_38 rfl (by decide) rfl rfl rfl dX10_findDoubts_22 ?_
      refine z_iload_n cx rfl rfl dX10_findDoubts_25 ?_
      obtain ⟨v5, S6, e7, h⟩ := g_bd_ex h
      refine q_cvi (As := [.int x3]) cx mo_X2_has mv_X2_has z_cl2 rfl tb_599 (by decide) rfl (by decide) rfl rfl (Nat.le_of_ble_eq_true rfl) dX10_findDoubts_26 (c_X2_has x3 _ e7) ?_
      refine q_ifb_eq (tgt := 85) cx (by decide) dX10_findDoubts_29 (fun c8 => ?_) (fun c8 => ?_)
      · have h := g_f (Bool.eq_false_iff.mp c8) h
        exact q_weak (z_wk_s (z_wk_s (z_wk_s (z_wk_s (z_wk_0))))) (t_X10_findDoubts_85 n cx ce (f_X10_findDoubts_15 n m) ih x1 x2 x3 S6 h)
      · have h := g_t c8 h
        refine z_aload_n cx rfl rfl dX10_findDoubts_32 ?_
        refine z_iload_n cx rfl rfl dX10_findDoubts_33 ?_
        refine z_iload_n cx rfl rfl dX10_findDoubts_34 ?_
        refine z_bipush (v := 6) cx (by decide +kernel) dX10_findDoubts_35 ?_
        refine z_ishr cx dX10_findDoubts_37 ?_
        refine z_iload_n cx rfl rfl dX10_findDoubts_38 ?_
        refine z_ishr cx dX10_findDoubts_39 ?_
        refine z_iconst (v := 1) cx (by decide +kernel) dX10_findDoubts_40 ?_
        refine z_iand cx dX10_findDoubts_41 ?_
        refine z_aload_n cx rfl rfl dX10_findDoubts_42 ?_
        refine q_getF (k := 0) (n := 18) (r := 18) cx z_cl10 (j := 7) (by decide) tb_38 rfl (by decide) rfl rfl rfl dX10_findDoubts_43 ?_
        refine q_getF (k := 18) (n := 19) (r := 1) cx z_cl2 (j := 1) (by decide) tb_597 rfl (by decide) rfl rfl rfl dX10_findDoubts_46 ?_
        refine z_iload_n cx rfl rfl dX10_findDoubts_49 ?_
        obtain ⟨c9, h⟩ := g_if h
        refine q_aald_F cx (by decide) rfl c9 dX10_findDoubts_50 ?_
        obtain ⟨v10, S11, e12, h⟩ := g_bd_ex h
        refine q_cvi (As := [.int x3, .int (((x1 >>> (6 &&& 31)) >>> (x3 &&& 31)) &&& 1), .ref (z_ad g (22 + x3.toNatClampNeg))]) cx mo_X10_findOpen mv_X10_findOpen z_cl10 rfl tb_444 (by decide) rfl (by decide) rfl rfl (Nat.le_of_ble_eq_true rfl) dX10_findDoubts_51 (c_X10_findOpen x3 (((x1 >>> (6 &&& 31)) >>> (x3 &&& 31)) &&& 1) (22 + x3.toNatClampNeg) _ (wp4_of c9) e12) ?_
        refine q_ifb_eq (tgt := 65) cx (by decide) dX10_findDoubts_54 (fun c13 => ?_) (fun c13 => ?_)
        · have h := g_f (Bool.eq_false_iff.mp c13) h
          exact q_weak (z_wk_s (z_wk_s (z_wk_n (z_wk_s (z_wk_0))))) (t_X10_findDoubts_65 n cx ce (f_X10_findDoubts_15 n m) ih x1 x3 S11 h)
        · have h := g_t c13 h
          refine z_iload_n cx rfl rfl dX10_findDoubts_57 ?_
          refine z_if_eq (tgt := 65) cx (by decide) dX10_findDoubts_58 (fun c14 => ?_) (fun c14 => ?_)
          · have h := g_t c14 h
            exact q_weak (z_wk_s (z_wk_s (z_wk_n (z_wk_s (z_wk_0))))) (t_X10_findDoubts_65 n cx ce (f_X10_findDoubts_15 n m) ih x1 x3 S11 h)
          · have h := g_f c14 h
            refine z_iconst (v := 1) cx (by decide +kernel) dX10_findDoubts_61 ?_
            refine z_goto (tgt := 66) cx (by decide) dX10_findDoubts_62 ?_
            exact q_weak (z_wk_s (z_wk_s (z_wk_n (z_wk_s (z_wk_0))))) (t_X10_findDoubts_66 n cx ce (f_X10_findDoubts_15 n m) ih x1 x3 1 S11 h)
def f_X10_findDoubts (n : Nat) (a0 : Int32) (S : z_Stt) : Option (Bool × z_Stt) :=
  g_let (sI S 1800 (a0 &&& 63)) fun S1 =>
  f_X10_findDoubts_15 n n a0 1 0 S1
set_option maxHeartbeats 4000000 in
set_option maxRecDepth 100000 in
theorem t_X10_findDoubts {g : z_G} {K : z_K} (n : Nat) {v : Bool} {S' : z_Stt} (cx : z_C g M_X10_findDoubts 5 K) (ce : z_E' g M_X10_findDoubts (z_P g (some (.int (bI v))) S') K) (a0 : Int32) (S : z_Stt) (h : f_X10_findDoubts n a0 S = some (v, S')) : z_At g M_X10_findDoubts K 0 [some (.ref (z_ad g 0)), some (.int a0), none, none] [] (hp g S) := by
  unfold f_X10_findDoubts at h
  refine z_aload_n cx rfl rfl dX10_findDoubts_0 ?_
  refine q_getF (k := 0) (n := 18) (r := 18) cx z_cl10 (j := 7) (by decide) tb_38 rfl (by decide) rfl rfl rfl dX10_findDoubts_1 ?_
  refine z_iload_n cx rfl rfl dX10_findDoubts_4 ?_
  refine z_bipush (v := 63) cx (by decide +kernel) dX10_findDoubts_5 ?_
  refine z_iand cx dX10_findDoubts_7 ?_
  refine q_putI (k := 18) (n := 1800) cx z_cl2 (j := 0) (by decide) tb_596 rfl rfl rfl (by decide) rfl rfl rfl (by decide) (by decide) dX10_findDoubts_8 ?_
  obtain ⟨S1, e2, h⟩ := g_let_ex h
  rw [← e2]
  refine z_iconst (v := 1) cx (by decide +kernel) dX10_findDoubts_11 ?_
  refine z_istore_n (L' := [some (.ref (z_ad g 0)), some (.int a0), some (.int 1), none]) cx rfl (by decide) rfl dX10_findDoubts_12 ?_
  refine z_iconst (v := 0) cx (by decide +kernel) dX10_findDoubts_13 ?_
  refine z_istore_n (L' := [some (.ref (z_ad g 0)), some (.int a0), some (.int 1), some (.int 0)]) cx rfl (by decide) rfl dX10_findDoubts_14 ?_
  exact q_weak (z_wk_s (z_wk_s (z_wk_s (z_wk_s (z_wk_0))))) (t_X10_findDoubts_15 n cx ce n a0 1 0 S1 h)
theorem c_X10_findDoubts {g : z_G} {n : Nat} (a0 : Int32) (S : z_Stt) {v : Bool} {S' : z_Stt} (h : f_X10_findDoubts n a0 S = some (v, S')) : z_Ct g M_X10_findDoubts 5 [.ref (z_ad g 0), .int a0] (hp g S) (z_P g (some (.int (bI v))) S') :=
  z_Ct.of (by decide +kernel) rfl (Nat.le_of_ble_eq_true rfl) (fun K cx ce => q_weak (L' := [some (.ref (z_ad g 0)), some (.int a0), none, none]) (z_wk_s (z_wk_s (z_wk_e (z_wk_e (z_wk_0))))) (t_X10_findDoubts n cx ce a0 S h))
abbrev M_X10_best : z_M := (RX10, yX10_best, cX10_best, 5, some .long)
theorem mo_X10_best : z_mo M_X10_best 3 := ⟨tb_575, tb_2, rfl, ⟨by decide +kernel, by decide +kernel⟩, by decide +kernel, by decide⟩
theorem mv_X10_best : z_mv M_X10_best := ⟨tb_573, tb_574⟩
def f_X10_best (n : Nat) (a0 : Int32) (a1 : Int32) (a2 : Int32) (S : z_Stt) : Option (Int64 × z_Stt) :=
  g_bd (f_X10_isDoubt a0 S) fun v1 S2 =>
  if v1 = true then
    g_bd (f_X10_within a1 99 S2) fun v5 S6 =>
    if v5 = true then
      g_bd (f_X10_within a2 2 S6) fun v9 S10 =>
      if v9 = true then
        g_bd (f_X10_findDoubts n a0 S10) fun v13 S14 =>
        if v13 = true then
          g_bd (f_X10_wayBack a1 S14) fun v17 S18 =>
          g_bd (f_X9_look S18) fun v20 S21 =>
          g_bd (f_X2_bestLooks n (Int32.toInt64 v17) v20 S21) fun v23 S24 =>
          if a2 = 2 then
            some (Int32.toInt64 v23, S24)
          else
            g_bd (f_X10_wayBack a1 S24) fun v27 S28 =>
            g_bd (f_X9_look S28) fun v30 S31 =>
            g_bd (f_X2_costOf n v23 (Int32.toInt64 v27) v30 S31) fun v33 S34 =>
            g_bd (f_X4_become n 17 v33 (S34.2.1 1804) S34) fun v36 S37 =>
            g_bd (f_X4_part 17 a2 S37) fun v39 S40 =>
            some (v39, S40)
        else
          some ((-2), S14)
      else
        some ((-9223372036854775808), S10)
    else
      some ((-9223372036854775808), S6)
  else
    some ((-9223372036854775808), S2)
set_option maxHeartbeats 4000000 in
set_option maxRecDepth 100000 in
theorem t_X10_best {g : z_G} {K : z_K} (n : Nat) {v : Int64} {S' : z_Stt} (cx : z_C g M_X10_best 6 K) (ce : z_E' g M_X10_best (z_P g (some (.long v)) S') K) (a0 : Int32) (a1 : Int32) (a2 : Int32) (S : z_Stt) (h : f_X10_best n a0 a1 a2 S = some (v, S')) : z_At g M_X10_best K 0 [some (.ref (z_ad g 0)), some (.int a0), some (.int a1), some (.int a2), none] [] (hp g S) := by
  unfold f_X10_best at h
  refine z_aload_n cx rfl rfl dX10_best_0 ?_
  refine z_iload_n cx rfl rfl dX10_best_1 ?_
  obtain ⟨v1, S2, e3, h⟩ := g_bd_ex h
  refine q_cvi (As := [.int a0]) cx mo_X10_isDoubt mv_X10_isDoubt z_cl10 rfl tb_577 (by decide) rfl (by decide) rfl rfl (Nat.le_of_ble_eq_true rfl) dX10_best_2 (c_X10_isDoubt a0 _ e3) ?_
  refine q_ifb_eq (tgt := 25) cx (by decide) dX10_best_5 (fun c4 => ?_) (fun c4 => ?_)
  · have h := g_f (Bool.eq_false_iff.mp c4) h
    refine z_ldc2 cx tb_442 dX10_best_25 ?_
    obtain ⟨rfl, rfl⟩ := g_some h
    exact z_lreturn cx ce rfl ⟨rfl, rfl⟩ dX10_best_28
  · have h := g_t c4 h
    refine z_iload_n cx rfl rfl dX10_best_8 ?_
    refine z_bipush (v := 99) cx (by decide +kernel) dX10_best_9 ?_
    obtain ⟨v5, S6, e7, h⟩ := g_bd_ex h
    refine q_csi (As := [.int a1, .int 99]) cx mo_X10_within ms_X10_within tb_171 (by decide) rfl rfl (Nat.le_of_ble_eq_true rfl) dX10_best_11 (c_X10_within a1 99 _ e7) ?_
    refine q_ifb_eq (tgt := 25) cx (by decide) dX10_best_14 (fun c8 => ?_) (fun c8 => ?_)
    · have h := g_f (Bool.eq_false_iff.mp c8) h
      refine z_ldc2 cx tb_442 dX10_best_25 ?_
      obtain ⟨rfl, rfl⟩ := g_some h
      exact z_lreturn cx ce rfl ⟨rfl, rfl⟩ dX10_best_28
    · have h := g_t c8 h
      refine z_iload_n cx rfl rfl dX10_best_17 ?_
      refine z_iconst (v := 2) cx (by decide +kernel) dX10_best_18 ?_
      obtain ⟨v9, S10, e11, h⟩ := g_bd_ex h
      refine q_csi (As := [.int a2, .int 2]) cx mo_X10_within ms_X10_within tb_171 (by decide) rfl rfl (Nat.le_of_ble_eq_true rfl) dX10_best_19 (c_X10_within a2 2 _ e11) ?_
      refine q_ifb_ne (tgt := 29) cx (by decide) dX10_best_22 (fun c12 => ?_) (fun c12 => ?_)
      · have h := g_t c12 h
        refine z_aload_n cx rfl rfl dX10_best_29 ?_
        refine z_iload_n cx rfl rfl dX10_best_30 ?_
        obtain ⟨v13, S14, e15, h⟩ := g_bd_ex h
        refine q_cvi (As := [.int a0]) cx mo_X10_findDoubts mv_X10_findDoubts z_cl10 rfl tb_592 (by decide) rfl (by decide) rfl rfl (Nat.le_of_ble_eq_true rfl) dX10_best_31 (c_X10_findDoubts a0 _ e15) ?_
        refine q_ifb_ne (tgt := 41) cx (by decide) dX10_best_34 (fun c16 => ?_) (fun c16 => ?_)
        · have h := g_t c16 h
          refine z_aload_n cx rfl rfl dX10_best_41 ?_
          refine q_getF (k := 0) (n := 18) (r := 18) cx z_cl10 (j := 7) (by decide) tb_38 rfl (by decide) rfl rfl rfl dX10_best_42 ?_
          refine z_aload_n cx rfl rfl dX10_best_45 ?_
          refine z_iload_n cx rfl rfl dX10_best_46 ?_
          obtain ⟨v17, S18, e19, h⟩ := g_bd_ex h
          refine q_cvi (As := [.int a1]) cx mo_X10_wayBack mv_X10_wayBack z_cl10 rfl tb_528 (by decide) rfl (by decide) rfl rfl (Nat.le_of_ble_eq_true rfl) dX10_best_47 (c_X10_wayBack a1 _ e19) ?_
          refine z_i2l cx dX10_best_50 ?_
          refine z_aload_n cx rfl rfl dX10_best_51 ?_
          refine q_getF (k := 0) (n := 1) (r := 1) cx z_cl10 (j := 0) (by decide) tb_16 rfl (by decide) rfl rfl rfl dX10_best_52 ?_
          obtain ⟨v20, S21, e22, h⟩ := g_bd_ex h
          refine q_cvi (As := []) cx mo_X9_look mv_X9_look z_cl9 rfl tb_614 (by decide) rfl (by decide) rfl rfl (Nat.le_of_ble_eq_true rfl) dX10_best_55 (c_X9_look  _ e22) ?_
          obtain ⟨v23, S24, e25, h⟩ := g_bd_ex h
          refine q_cvi (As := [.long (Int32.toInt64 v17), .int v20]) cx mo_X2_bestLooks mv_X2_bestLooks z_cl2 rfl tb_618 (by decide) rfl (by decide) rfl rfl (Nat.le_of_ble_eq_true rfl) dX10_best_58 (c_X2_bestLooks (Int32.toInt64 v17) v20 _ e25) ?_
          refine z_istore (L' := [some (.ref (z_ad g 0)), some (.int a0), some (.int a1), some (.int a2), some (.int v23)]) cx (by decide) rfl dX10_best_61 ?_
          refine z_iload_n cx rfl rfl dX10_best_63 ?_
          refine z_iconst (v := 2) cx (by decide +kernel) dX10_best_64 ?_
          refine z_icmp_ne (tgt := 72) cx (by decide) dX10_best_65 (fun c26 => ?_) (fun c26 => ?_)
          · have h := g_f c26 h
            refine z_aload_n cx rfl rfl dX10_best_72 ?_
            refine q_getF (k := 0) (n := 17) (r := 17) cx z_cl10 (j := 6) (by decide) tb_34 rfl (by decide) rfl rfl rfl dX10_best_73 ?_
            refine z_aload_n cx rfl rfl dX10_best_76 ?_
            refine q_getF (k := 0) (n := 18) (r := 18) cx z_cl10 (j := 7) (by decide) tb_38 rfl (by decide) rfl rfl rfl dX10_best_77 ?_
            refine z_iload cx rfl dX10_best_80 ?_
            refine z_aload_n cx rfl rfl dX10_best_82 ?_
            refine z_iload_n cx rfl rfl dX10_best_83 ?_
            obtain ⟨v27, S28, e29, h⟩ := g_bd_ex h
            refine q_cvi (As := [.int a1]) cx mo_X10_wayBack mv_X10_wayBack z_cl10 rfl tb_528 (by decide) rfl (by decide) rfl rfl (Nat.le_of_ble_eq_true rfl) dX10_best_84 (c_X10_wayBack a1 _ e29) ?_
            refine z_i2l cx dX10_best_87 ?_
            refine z_aload_n cx rfl rfl dX10_best_88 ?_
            refine q_getF (k := 0) (n := 1) (r := 1) cx z_cl10 (j := 0) (by decide) tb_16 rfl (by decide) rfl rfl rfl dX10_best_89 ?_
            obtain ⟨v30, S31, e32, h⟩ := g_bd_ex h
            refine q_cvi (As := []) cx mo_X9_look mv_X9_look z_cl9 rfl tb_614 (by decide) rfl (by decide) rfl rfl (Nat.le_of_ble_eq_true rfl) dX10_best_92 (c_X9_look  _ e32) ?_
            obtain ⟨v33, S34, e35, h⟩ := g_bd_ex h
            refine q_cvl (As := [.int v23, .long (Int32.toInt64 v27), .int v30]) cx mo_X2_costOf mv_X2_costOf z_cl2 rfl tb_627 (by decide) rfl (by decide) rfl rfl (Nat.le_of_ble_eq_true rfl) dX10_best_95 (c_X2_costOf v23 (Int32.toInt64 v27) v30 _ e35) ?_
            refine z_aload_n cx rfl rfl dX10_best_98 ?_
            refine q_getF (k := 0) (n := 18) (r := 18) cx z_cl10 (j := 7) (by decide) tb_38 rfl (by decide) rfl rfl rfl dX10_best_99 ?_
            refine q_getJ (k := 18) (n := 1804) cx z_cl2 (j := 4) (by decide) tb_576 rfl (by decide) rfl rfl rfl dX10_best_102 ?_
            obtain ⟨v36, S37, e38, h⟩ := g_bd_ex h
            refine q_cvi (As := [.long v33, .long (S34.2.1 1804)]) cx mo_X4_become mv_X4_become z_cl4 rfl tb_454 (by decide) rfl (by decide) rfl rfl (Nat.le_of_ble_eq_true rfl) dX10_best_105 (c_X4_become 17 v33 (S34.2.1 1804) _ wp4_17 e38) ?_
            refine z_pop cx rfl dX10_best_108 ?_
            refine z_aload_n cx rfl rfl dX10_best_109 ?_
            refine q_getF (k := 0) (n := 17) (r := 17) cx z_cl10 (j := 6) (by decide) tb_34 rfl (by decide) rfl rfl rfl dX10_best_110 ?_
            refine z_iload_n cx rfl rfl dX10_best_113 ?_
            obtain ⟨v39, S40, e41, h⟩ := g_bd_ex h
            refine q_cvl (As := [.int a2]) cx mo_X4_part mv_X4_part z_cl4 rfl tb_476 (by decide) rfl (by decide) rfl rfl (Nat.le_of_ble_eq_true rfl) dX10_best_114 (c_X4_part 17 a2 _ wp4_17 e41) ?_
            obtain ⟨rfl, rfl⟩ := g_some h
            exact z_lreturn cx ce rfl ⟨rfl, rfl⟩ dX10_best_117
          · have h := g_t c26 h
            refine z_iload cx rfl dX10_best_68 ?_
            refine z_i2l cx dX10_best_70 ?_
            obtain ⟨rfl, rfl⟩ := g_some h
            exact z_lreturn cx ce rfl ⟨rfl, rfl⟩ dX10_best_71
        · have h := g_f (Bool.eq_false_iff.mp c16) h
          refine z_ldc2 cx tb_443 dX10_best_37 ?_
          obtain ⟨rfl, rfl⟩ := g_some h
          exact z_lreturn cx ce rfl ⟨rfl, rfl⟩ dX10_best_40
      · have h := g_f (Bool.eq_false_iff.mp c12) h
        refine z_ldc2 cx tb_442 dX10_best_25 ?_
        obtain ⟨rfl, rfl⟩ := g_some h
        exact z_lreturn cx ce rfl ⟨rfl, rfl⟩ dX10_best_28
theorem c_X10_best {g : z_G} {n : Nat} (a0 : Int32) (a1 : Int32) (a2 : Int32) (S : z_Stt) {v : Int64} {S' : z_Stt} (h : f_X10_best n a0 a1 a2 S = some (v, S')) : z_Ct g M_X10_best 6 [.ref (z_ad g 0), .int a0, .int a1, .int a2] (hp g S) (z_P g (some (.long v)) S') :=
  z_Ct.of (by decide +kernel) rfl (Nat.le_of_ble_eq_true rfl) (fun K cx ce => q_weak (L' := [some (.ref (z_ad g 0)), some (.int a0), some (.int a1), some (.int a2), none]) (z_wk_s (z_wk_s (z_wk_s (z_wk_s (z_wk_e (z_wk_0)))))) (t_X10_best n cx ce a0 a1 a2 S h))
abbrev M_X10_gone : z_M := (RX10, yX10_gone, cX10_gone, 6, some .int)
theorem mo_X10_gone : z_mo M_X10_gone 2 := ⟨tb_658, tb_2, rfl, ⟨by decide +kernel, by decide +kernel⟩, by decide +kernel, by decide⟩
theorem mv_X10_gone : z_mv M_X10_gone := ⟨tb_656, tb_657⟩
def f_X10_gone (n : Nat) (a0 : Int32) (a1 : Int32) (S : z_Stt) : Option (Int32 × z_Stt) :=
  g_bd (f_X10_isDoubt a0 S) fun v1 S2 =>
  if v1 = true then
    g_bd (f_X10_within a1 99 S2) fun v5 S6 =>
    if v5 = true then
      g_bd (f_X10_findDoubts n a0 S6) fun v9 S10 =>
      if v9 = true then
        g_bd (f_X2_worst n S10) fun v13 S14 =>
        if 0 ≤ v13 then
          g_bd (f_X9_ofThing 3 v13 S14) fun v17 S18 =>
          g_bd (f_J6_bitCount_0f7a4 (S18.1 1800) S18) fun v20 S21 =>
          if ¬ (v13 < 0 ∨ 6 ≤ v13.toNatClampNeg) then
            g_bd (f_X4_of144 (22 + v13.toNatClampNeg) S21) fun v24 S25 =>
            g_bd (f_X9_price S25) fun v27 S28 =>
            g_bd (f_X6_says n v24 v17 a1 v27 (S28.1 702) v20 S28) fun v30 S31 =>
            if v30 = true then
              some (1, S31)
            else
              some (0, S31)
          else none
        else
          some (0, S14)
      else
        some ((-2), S10)
    else
      some ((-1), S6)
  else
    some ((-1), S2)
set_option maxHeartbeats 4000000 in
set_option maxRecDepth 100000 in
theorem t_X10_gone {g : z_G} {K : z_K} (n : Nat) {v : Int32} {S' : z_Stt} (cx : z_C g M_X10_gone 68 K) (ce : z_E' g M_X10_gone (z_P g (some (.int v)) S') K) (a0 : Int32) (a1 : Int32) (S : z_Stt) (h : f_X10_gone n a0 a1 S = some (v, S')) : z_At g M_X10_gone K 0 [some (.ref (z_ad g 0)), some (.int a0), some (.int a1), none, none, none] [] (hp g S) := by
  unfold f_X10_gone at h
  refine z_aload_n cx rfl rfl dX10_gone_0 ?_
  refine z_iload_n cx rfl rfl dX10_gone_1 ?_
  obtain ⟨v1, S2, e3, h⟩ := g_bd_ex h
  refine q_cvi (As := [.int a0]) cx mo_X10_isDoubt mv_X10_isDoubt z_cl10 rfl tb_577 (by decide) rfl (by decide) rfl rfl (Nat.le_of_ble_eq_true rfl) dX10_gone_2 (c_X10_isDoubt a0 _ e3) ?_
  refine q_ifb_eq (tgt := 17) cx (by decide) dX10_gone_5 (fun c4 => ?_) (fun c4 => ?_)
  · have h := g_f (Bool.eq_false_iff.mp c4) h
    refine z_iconst (v := (-1)) cx (by decide +kernel) dX10_gone_17 ?_
    obtain ⟨rfl, rfl⟩ := g_some h
    exact z_ireturn cx ce rfl ⟨rfl, rfl⟩ dX10_gone_18
  · have h := g_t c4 h
    refine z_iload_n cx rfl rfl dX10_gone_8 ?_
    refine z_bipush (v := 99) cx (by decide +kernel) dX10_gone_9 ?_
    obtain ⟨v5, S6, e7, h⟩ := g_bd_ex h
    refine q_csi (As := [.int a1, .int 99]) cx mo_X10_within ms_X10_within tb_171 (by decide) rfl rfl (Nat.le_of_ble_eq_true rfl) dX10_gone_11 (c_X10_within a1 99 _ e7) ?_
    refine q_ifb_ne (tgt := 19) cx (by decide) dX10_gone_14 (fun c8 => ?_) (fun c8 => ?_)
    · have h := g_t c8 h
      refine z_aload_n cx rfl rfl dX10_gone_19 ?_
      refine z_iload_n cx rfl rfl dX10_gone_20 ?_
      obtain ⟨v9, S10, e11, h⟩ := g_bd_ex h
      refine q_cvi (As := [.int a0]) cx mo_X10_findDoubts mv_X10_findDoubts z_cl10 rfl tb_592 (by decide) rfl (by decide) rfl rfl (Nat.le_of_ble_eq_true rfl) dX10_gone_21 (c_X10_findDoubts a0 _ e11) ?_
      refine q_ifb_ne (tgt := 30) cx (by decide) dX10_gone_24 (fun c12 => ?_) (fun c12 => ?_)
      · have h := g_t c12 h
        refine z_aload_n cx rfl rfl dX10_gone_30 ?_
        refine q_getF (k := 0) (n := 18) (r := 18) cx z_cl10 (j := 7) (by decide) tb_38 rfl (by decide) rfl rfl rfl dX10_gone_31 ?_
        obtain ⟨v13, S14, e15, h⟩ := g_bd_ex h
        refine q_cvi (As := []) cx mo_X2_worst mv_X2_worst z_cl2 rfl tb_659 (by decide) rfl (by decide) rfl rfl (Nat.le_of_ble_eq_true rfl) dX10_gone_34 (c_X2_worst  _ e15) ?_
        refine z_istore_n (L' := [some (.ref (z_ad g 0)), some (.int a0), some (.int a1), some (.int v13), none, none]) cx rfl (by decide) rfl dX10_gone_37 ?_
        refine z_iload_n cx rfl rfl dX10_gone_38 ?_
        refine z_if_ge (tgt := 44) cx (by decide) dX10_gone_39 (fun c16 => ?_) (fun c16 => ?_)
        · have h := g_t c16 h
          refine z_aload_n cx rfl rfl dX10_gone_44 ?_
          refine q_getF (k := 0) (n := 1) (r := 1) cx z_cl10 (j := 0) (by decide) tb_16 rfl (by decide) rfl rfl rfl dX10_gone_45 ?_
          refine z_iconst (v := 3) cx (by decide +kernel) dX10_gone_48 ?_
          refine z_iload_n cx rfl rfl dX10_gone_49 ?_
          obtain ⟨v17, S18, e19, h⟩ := g_bd_ex h
          refine q_cvi (As := [.int 3, .int v13]) cx mo_X9_ofThing mv_X9_ofThing z_cl9 rfl tb_449 (by decide) rfl (by decide) rfl rfl (Nat.le_of_ble_eq_true rfl) dX10_gone_50 (c_X9_ofThing 3 v13 _ e19) ?_
          refine z_istore (L' := [some (.ref (z_ad g 0)), some (.int a0), some (.int a1), some (.int v13), some (.int v17), none]) cx (by decide) rfl dX10_gone_53 ?_
          refine z_aload_n cx rfl rfl dX10_gone_55 ?_
          refine q_getF (k := 0) (n := 18) (r := 18) cx z_cl10 (j := 7) (by decide) tb_38 rfl (by decide) rfl rfl rfl dX10_gone_56 ?_
          refine q_getI (k := 18) (n := 1800) cx z_cl2 (j := 0) (by decide) tb_596 rfl (by decide) rfl rfl rfl dX10_gone_59 ?_
          obtain ⟨v20, S21, e22, h⟩ := g_bd_ex h
          refine q_csi (As := [.int (S18.1 1800)]) cx mo_J6_bitCount_0f7a4 ms_J6_bitCount_0f7a4 tb_585 (by decide) rfl rfl (Nat.le_of_ble_eq_true rfl) dX10_gone_62 (c_J6_bitCount_0f7a4 (S18.1 1800) _ e22) ?_
          refine z_istore (L' := [some (.ref (z_ad g 0)), some (.int a0), some (.int a1), some (.int v13), some (.int v17), some (.int v20)]) cx (by decide) rfl dX10_gone_65 ?_
          refine z_aload_n cx rfl rfl dX10_gone_67 ?_
          refine q_getF (k := 0) (n := 13) (r := 13) cx z_cl10 (j := 5) (by decide) tb_30 rfl (by decide) rfl rfl rfl dX10_gone_68 ?_
          refine z_aload_n cx rfl rfl dX10_gone_71 ?_
          refine q_getF (k := 0) (n := 18) (r := 18) cx z_cl10 (j := 7) (by decide) tb_38 rfl (by decide) rfl rfl rfl dX10_gone_72 ?_
          refine q_getF (k := 18) (n := 19) (r := 1) cx z_cl2 (j := 1) (by decide) tb_597 rfl (by decide) rfl rfl rfl dX10_gone_75 ?_
          refine z_iload_n cx rfl rfl dX10_gone_78 ?_
          obtain ⟨c23, h⟩ := g_if h
          refine q_aald_F cx (by decide) rfl c23 dX10_gone_79 ?_
          obtain ⟨v24, S25, e26, h⟩ := g_bd_ex h
          refine q_cvi (As := []) cx mo_X4_of144 mv_X4_of144 z_cl4 rfl tb_668 (by decide) rfl (wp4_of c23).1 (wp4_of c23).2 rfl (Nat.le_of_ble_eq_true rfl) dX10_gone_80 (c_X4_of144 (22 + v13.toNatClampNeg) _ (wp4_of c23) e26) ?_
          refine z_iload cx rfl dX10_gone_83 ?_
          refine z_iload_n cx rfl rfl dX10_gone_85 ?_
          refine z_aload_n cx rfl rfl dX10_gone_86 ?_
          refine q_getF (k := 0) (n := 1) (r := 1) cx z_cl10 (j := 0) (by decide) tb_16 rfl (by decide) rfl rfl rfl dX10_gone_87 ?_
          obtain ⟨v27, S28, e29, h⟩ := g_bd_ex h
          refine q_cvi (As := []) cx mo_X9_price mv_X9_price z_cl9 rfl tb_532 (by decide) rfl (by decide) rfl rfl (Nat.le_of_ble_eq_true rfl) dX10_gone_90 (c_X9_price  _ e29) ?_
          refine z_aload_n cx rfl rfl dX10_gone_93 ?_
          refine q_getF (k := 0) (n := 7) (r := 7) cx z_cl10 (j := 2) (by decide) tb_24 rfl (by decide) rfl rfl rfl dX10_gone_94 ?_
          refine q_getI (k := 7) (n := 702) cx z_cl1 (j := 2) (by decide) tb_301 rfl (by decide) rfl rfl rfl dX10_gone_97 ?_
          refine z_iload cx rfl dX10_gone_100 ?_
          obtain ⟨v30, S31, e32, h⟩ := g_bd_ex h
          refine q_cvi (As := [.int v24, .int v17, .int a1, .int v27, .int (S28.1 702), .int v20]) cx mo_X6_says mv_X6_says z_cl6 rfl tb_669 (by decide) rfl (by decide) rfl rfl (Nat.le_of_ble_eq_true rfl) dX10_gone_102 (c_X6_says v24 v17 a1 v27 (S28.1 702) v20 _ e32) ?_
          refine q_ifb_eq (tgt := 112) cx (by decide) dX10_gone_105 (fun c33 => ?_) (fun c33 => ?_)
          · have h := g_f (Bool.eq_false_iff.mp c33) h
            refine z_iconst (v := 0) cx (by decide +kernel) dX10_gone_112 ?_
            obtain ⟨rfl, rfl⟩ := g_some h
            exact z_ireturn cx ce rfl ⟨rfl, rfl⟩ dX10_gone_113
          · have h := g_t c33 h
            refine z_iconst (v := 1) cx (by decide +kernel) dX10_gone_108 ?_
            refine z_goto (tgt := 113) cx (by decide) dX10_gone_109 ?_
            obtain ⟨rfl, rfl⟩ := g_some h
            exact z_ireturn cx ce rfl ⟨rfl, rfl⟩ dX10_gone_113
        · have h := g_f c16 h
          refine z_iconst (v := 0) cx (by decide +kernel) dX10_gone_42 ?_
          obtain ⟨rfl, rfl⟩ := g_some h
          exact z_ireturn cx ce rfl ⟨rfl, rfl⟩ dX10_gone_43
      · have h := g_f (Bool.eq_false_iff.mp c12) h
        refine z_bipush (v := (-2)) cx (by decide +kernel) dX10_gone_27 ?_
        obtain ⟨rfl, rfl⟩ := g_some h
        exact z_ireturn cx ce rfl ⟨rfl, rfl⟩ dX10_gone_29
    · have h := g_f (Bool.eq_false_iff.mp c8) h
      refine z_iconst (v := (-1)) cx (by decide +kernel) dX10_gone_17 ?_
      obtain ⟨rfl, rfl⟩ := g_some h
      exact z_ireturn cx ce rfl ⟨rfl, rfl⟩ dX10_gone_18
theorem c_X10_gone {g : z_G} {n : Nat} (a0 : Int32) (a1 : Int32) (S : z_Stt) {v : Int32} {S' : z_Stt} (h : f_X10_gone n a0 a1 S = some (v, S')) : z_Ct g M_X10_gone 68 [.ref (z_ad g 0), .int a0, .int a1] (hp g S) (z_P g (some (.int v)) S') :=
  z_Ct.of (by decide +kernel) rfl (Nat.le_of_ble_eq_true rfl) (fun K cx ce => q_weak (L' := [some (.ref (z_ad g 0)), some (.int a0), some (.int a1), none, none, none]) (z_wk_s (z_wk_s (z_wk_s (z_wk_e (z_wk_e (z_wk_e (z_wk_0))))))) (t_X10_gone n cx ce a0 a1 S h))
abbrev M_X10_plan : z_M := (RX10, yX10_plan, cX10_plan, 11, some .long)
theorem mo_X10_plan : z_mo M_X10_plan 3 := ⟨tb_684, tb_2, rfl, ⟨by decide +kernel, by decide +kernel⟩, by decide +kernel, by decide⟩
theorem mv_X10_plan : z_mv M_X10_plan := ⟨tb_682, tb_683⟩
def f_X10_plan_172 (n : Nat) (x3 : Int32) (x6 : Int32) (x7 : Int64) (S : z_Stt) : Option (Int64 × z_Stt) :=
  if x3 = 2 then
    some (Int32.toInt64 x6, S)
  else
    g_bd (f_X4_become n 17 x7 (12 * (S.2.1 1804)) S) fun v2 S3 =>
    g_bd (f_X4_part 17 x3 S3) fun v5 S6 =>
    some (v5, S6)
set_option maxHeartbeats 4000000 in
set_option maxRecDepth 100000 in
theorem t_X10_plan_172 {g : z_G} {K : z_K} (n : Nat) {v : Int64} {S' : z_Stt} (cx : z_C g M_X10_plan 6 K) (ce : z_E' g M_X10_plan (z_P g (some (.long v)) S') K) (x3 : Int32) (x6 : Int32) (x7 : Int64) (S : z_Stt) (h : f_X10_plan_172 n x3 x6 x7 S = some (v, S')) : z_At g M_X10_plan K 172 [some (.ref (z_ad g 0)), none, none, some (.int x3), none, none, some (.int x6), some (.long x7), none, none, none] [] (hp g S) := by
  unfold f_X10_plan_172 at h
  refine z_iload_n cx rfl rfl dX10_plan_172 ?_
  refine z_iconst (v := 2) cx (by decide +kernel) dX10_plan_173 ?_
  refine z_icmp_ne (tgt := 181) cx (by decide) dX10_plan_174 (fun c1 => ?_) (fun c1 => ?_)
  · have h := g_f c1 h
    refine z_aload_n cx rfl rfl dX10_plan_181 ?_
    refine q_getF (k := 0) (n := 17) (r := 17) cx z_cl10 (j := 6) (by decide) tb_34 rfl (by decide) rfl rfl rfl dX10_plan_182 ?_
    refine z_lload cx rfl dX10_plan_185 ?_
    refine z_ldc2 cx tb_685 dX10_plan_187 ?_
    refine z_aload_n cx rfl rfl dX10_plan_190 ?_
    refine q_getF (k := 0) (n := 18) (r := 18) cx z_cl10 (j := 7) (by decide) tb_38 rfl (by decide) rfl rfl rfl dX10_plan_191 ?_
    refine q_getJ (k := 18) (n := 1804) cx z_cl2 (j := 4) (by decide) tb_576 rfl (by decide) rfl rfl rfl dX10_plan_194 ?_
    refine z_lmul cx dX10_plan_197 ?_
    obtain ⟨v2, S3, e4, h⟩ := g_bd_ex h
    refine q_cvi (As := [.long x7, .long (12 * (S.2.1 1804))]) cx mo_X4_become mv_X4_become z_cl4 rfl tb_454 (by decide) rfl (by decide) rfl rfl (Nat.le_of_ble_eq_true rfl) dX10_plan_198 (c_X4_become 17 x7 (12 * (S.2.1 1804)) _ wp4_17 e4) ?_
    refine z_pop cx rfl dX10_plan_201 ?_
    refine z_aload_n cx rfl rfl dX10_plan_202 ?_
    refine q_getF (k := 0) (n := 17) (r := 17) cx z_cl10 (j := 6) (by decide) tb_34 rfl (by decide) rfl rfl rfl dX10_plan_203 ?_
    refine z_iload_n cx rfl rfl dX10_plan_206 ?_
    obtain ⟨v5, S6, e7, h⟩ := g_bd_ex h
    refine q_cvl (As := [.int x3]) cx mo_X4_part mv_X4_part z_cl4 rfl tb_476 (by decide) rfl (by decide) rfl rfl (Nat.le_of_ble_eq_true rfl) dX10_plan_207 (c_X4_part 17 x3 _ wp4_17 e7) ?_
    obtain ⟨rfl, rfl⟩ := g_some h
    exact z_lreturn cx ce rfl ⟨rfl, rfl⟩ dX10_plan_210
  · have h := g_t c1 h
    refine z_iload cx rfl dX10_plan_177 ?_
    refine z_i2l cx dX10_plan_179 ?_
    obtain ⟨rfl, rfl⟩ := g_some h
    exact z_lreturn cx ce rfl ⟨rfl, rfl⟩ dX10_plan_180
def f_X10_plan_125 (n : Nat) (x2 : Int32) (x3 : Int32) (x4 : Int64) (x6 : Int32) (x7 : Int64) (S : z_Stt) : Option (Int64 × z_Stt) :=
  g_bd (f_X9_ring S) fun v1 S2 =>
  g_bd (f_X2_costOfRinging n x4 v1 (12 - (S2.1 703)) (x2 % 64) S2) fun v4 S5 =>
  if 0 ≤ lg_cmp v4 x7 then
    f_X10_plan_172 n x3 x6 x7 S5
  else
    f_X10_plan_172 n x3 2 v4 S5
set_option maxHeartbeats 4000000 in
set_option maxRecDepth 100000 in
theorem t_X10_plan_125 {g : z_G} {K : z_K} (n : Nat) {v : Int64} {S' : z_Stt} (cx : z_C g M_X10_plan 6 K) (ce : z_E' g M_X10_plan (z_P g (some (.long v)) S') K) (x2 : Int32) (x3 : Int32) (x4 : Int64) (x6 : Int32) (x7 : Int64) (S : z_Stt) (h : f_X10_plan_125 n x2 x3 x4 x6 x7 S = some (v, S')) : z_At g M_X10_plan K 125 [some (.ref (z_ad g 0)), none, some (.int x2), some (.int x3), some (.long x4), none, some (.int x6), some (.long x7), none, none, none] [] (hp g S) := by
  unfold f_X10_plan_125 at h
  refine z_aload_n cx rfl rfl dX10_plan_125 ?_
  refine q_getF (k := 0) (n := 18) (r := 18) cx z_cl10 (j := 7) (by decide) tb_38 rfl (by decide) rfl rfl rfl dX10_plan_126 ?_
  refine z_lload cx rfl dX10_plan_129 ?_
  refine z_aload_n cx rfl rfl dX10_plan_131 ?_
  refine q_getF (k := 0) (n := 1) (r := 1) cx z_cl10 (j := 0) (by decide) tb_16 rfl (by decide) rfl rfl rfl dX10_plan_132 ?_
  obtain ⟨v1, S2, e3, h⟩ := g_bd_ex h
  refine q_cvi (As := []) cx mo_X9_ring mv_X9_ring z_cl9 rfl tb_687 (by decide) rfl (by decide) rfl rfl (Nat.le_of_ble_eq_true rfl) dX10_plan_135 (c_X9_ring  _ e3) ?_
  refine z_bipush (v := 12) cx (by decide +kernel) dX10_plan_138 ?_
  refine z_aload_n cx rfl rfl dX10_plan_140 ?_
  refine q_getF (k := 0) (n := 7) (r := 7) cx z_cl10 (j := 2) (by decide) tb_24 rfl (by decide) rfl rfl rfl dX10_plan_141 ?_
  refine q_getI (k := 7) (n := 703) cx z_cl1 (j := 3) (by decide) tb_302 rfl (by decide) rfl rfl rfl dX10_plan_144 ?_
  refine z_isub cx dX10_plan_147 ?_
  refine z_iload_n cx rfl rfl dX10_plan_148 ?_
  refine z_bipush (v := 64) cx (by decide +kernel) dX10_plan_149 ?_
  refine z_irem cx (by decide +kernel) dX10_plan_151 ?_
  obtain ⟨v4, S5, e6, h⟩ := g_bd_ex h
  refine q_cvl (As := [.long x4, .int v1, .int (12 - (S2.1 703)), .int (x2 % 64)]) cx mo_X2_costOfRinging mv_X2_costOfRinging z_cl2 rfl tb_691 (by decide) rfl (by decide) rfl rfl (Nat.le_of_ble_eq_true rfl) dX10_plan_152 (c_X2_costOfRinging x4 v1 (12 - (S2.1 703)) (x2 % 64) _ e6) ?_
  refine z_lstore (L' := [some (.ref (z_ad g 0)), none, some (.int x2), some (.int x3), some (.long x4), none, some (.int x6), some (.long x7), none, some (.long v4), none]) cx (by decide) rfl dX10_plan_155 ?_
  refine z_lload cx rfl dX10_plan_157 ?_
  refine z_lload cx rfl dX10_plan_159 ?_
  refine z_lcmp cx dX10_plan_161 ?_
  refine z_if_ge (tgt := 172) cx (by decide) dX10_plan_162 (fun c7 => ?_) (fun c7 => ?_)
  · have h := g_t c7 h
    exact q_weak (z_wk_s (z_wk_n (z_wk_n (z_wk_s (z_wk_n (z_wk_n (z_wk_s (z_wk_s (z_wk_n (z_wk_n (z_wk_n (z_wk_0)))))))))))) (t_X10_plan_172 n cx ce x3 x6 x7 S5 h)
  · have h := g_f c7 h
    refine z_iconst (v := 2) cx (by decide +kernel) dX10_plan_165 ?_
    refine z_istore (L' := [some (.ref (z_ad g 0)), none, some (.int x2), some (.int x3), some (.long x4), none, some (.int 2), some (.long x7), none, some (.long v4), none]) cx (by decide) rfl dX10_plan_166 ?_
    refine z_lload cx rfl dX10_plan_168 ?_
    refine z_lstore (L' := [some (.ref (z_ad g 0)), none, some (.int x2), some (.int x3), some (.long x4), none, some (.int 2), some (.long v4), none, some (.long v4), none]) cx (by decide) rfl dX10_plan_170 ?_
    exact q_weak (z_wk_s (z_wk_n (z_wk_n (z_wk_s (z_wk_n (z_wk_n (z_wk_s (z_wk_s (z_wk_n (z_wk_n (z_wk_n (z_wk_0)))))))))))) (t_X10_plan_172 n cx ce x3 2 v4 S5 h)
def f_X10_plan (n : Nat) (a0 : Int32) (a1 : Int32) (a2 : Int32) (S : z_Stt) : Option (Int64 × z_Stt) :=
  g_bd (f_X10_isDoubt a0 S) fun v1 S2 =>
  if v1 = true then
    if a1 < 0 then
      some ((-9223372036854775808), S2)
    else
      g_bd (f_X10_within (a1 / 64) 99 S2) fun v6 S7 =>
      if v6 = true then
        g_bd (f_X10_areThings (a1 % 64) S7) fun v10 S11 =>
        if v10 = true then
          g_bd (f_X10_within a2 2 S11) fun v14 S15 =>
          if v14 = true then
            g_bd (f_X10_findDoubts n a0 S15) fun v18 S19 =>
            if v18 = true then
              g_bd (f_X10_wayBack (a1 / 64) S19) fun v22 S23 =>
              if 0 ≤ lg_cmp ((12 * (S23.2.1 1804)) * (Int32.toInt64 v22)) (12 * (S23.2.1 1805)) then
                f_X10_plan_125 n a1 a2 (Int32.toInt64 v22) 0 (12 * (S23.2.1 1805)) S23
              else
                f_X10_plan_125 n a1 a2 (Int32.toInt64 v22) 1 ((12 * (S23.2.1 1804)) * (Int32.toInt64 v22)) S23
            else
              some ((-2), S19)
          else
            some ((-9223372036854775808), S15)
        else
          some ((-9223372036854775808), S11)
      else
        some ((-9223372036854775808), S7)
  else
    some ((-9223372036854775808), S2)
set_option maxHeartbeats 4000000 in
set_option maxRecDepth 100000 in
theorem t_X10_plan {g : z_G} {K : z_K} (n : Nat) {v : Int64} {S' : z_Stt} (cx : z_C g M_X10_plan 6 K) (ce : z_E' g M_X10_plan (z_P g (some (.long v)) S') K) (a0 : Int32) (a1 : Int32) (a2 : Int32) (S : z_Stt) (h : f_X10_plan n a0 a1 a2 S = some (v, S')) : z_At g M_X10_plan K 0 [some (.ref (z_ad g 0)), some (.int a0), some (.int a1), some (.int a2), none, none, none, none, none, none, none] [] (hp g S) := by
  unfold f_X10_plan at h
  refine z_aload_n cx rfl rfl dX10_plan_0 ?_
  refine z_iload_n cx rfl rfl dX10_plan_1 ?_
  obtain ⟨v1, S2, e3, h⟩ := g_bd_ex h
  refine q_cvi (As := [.int a0]) cx mo_X10_isDoubt mv_X10_isDoubt z_cl10 rfl tb_577 (by decide) rfl (by decide) rfl rfl (Nat.le_of_ble_eq_true rfl) dX10_plan_2 (c_X10_isDoubt a0 _ e3) ?_
  refine q_ifb_eq (tgt := 43) cx (by decide) dX10_plan_5 (fun c4 => ?_) (fun c4 => ?_)
  · have h := g_f (Bool.eq_false_iff.mp c4) h
    refine z_ldc2 cx tb_442 dX10_plan_43 ?_
    obtain ⟨rfl, rfl⟩ := g_some h
    exact z_lreturn cx ce rfl ⟨rfl, rfl⟩ dX10_plan_46
  · have h := g_t c4 h
    refine z_iload_n cx rfl rfl dX10_plan_8 ?_
    refine z_if_lt (tgt := 43) cx (by decide) dX10_plan_9 (fun c5 => ?_) (fun c5 => ?_)
    · have h := g_t c5 h
      refine z_ldc2 cx tb_442 dX10_plan_43 ?_
      obtain ⟨rfl, rfl⟩ := g_some h
      exact z_lreturn cx ce rfl ⟨rfl, rfl⟩ dX10_plan_46
    · have h := g_f c5 h
      refine z_iload_n cx rfl rfl dX10_plan_12 ?_
      refine z_bipush (v := 64) cx (by decide +kernel) dX10_plan_13 ?_
      refine z_idiv cx (by decide +kernel) dX10_plan_15 ?_
      refine z_bipush (v := 99) cx (by decide +kernel) dX10_plan_16 ?_
      obtain ⟨v6, S7, e8, h⟩ := g_bd_ex h
      refine q_csi (As := [.int (a1 / 64), .int 99]) cx mo_X10_within ms_X10_within tb_171 (by decide) rfl rfl (Nat.le_of_ble_eq_true rfl) dX10_plan_18 (c_X10_within (a1 / 64) 99 _ e8) ?_
      refine q_ifb_eq (tgt := 43) cx (by decide) dX10_plan_21 (fun c9 => ?_) (fun c9 => ?_)
      · have h := g_f (Bool.eq_false_iff.mp c9) h
        refine z_ldc2 cx tb_442 dX10_plan_43 ?_
        obtain ⟨rfl, rfl⟩ := g_some h
        exact z_lreturn cx ce rfl ⟨rfl, rfl⟩ dX10_plan_46
      · have h := g_t c9 h
        refine z_aload_n cx rfl rfl dX10_plan_24 ?_
        refine z_iload_n cx rfl rfl dX10_plan_25 ?_
        refine z_bipush (v := 64) cx (by decide +kernel) dX10_plan_26 ?_
        refine z_irem cx (by decide +kernel) dX10_plan_28 ?_
        obtain ⟨v10, S11, e12, h⟩ := g_bd_ex h
        refine q_cvi (As := [.int (a1 % 64)]) cx mo_X10_areThings mv_X10_areThings z_cl10 rfl tb_581 (by decide) rfl (by decide) rfl rfl (Nat.le_of_ble_eq_true rfl) dX10_plan_29 (c_X10_areThings (a1 % 64) _ e12) ?_
        refine q_ifb_eq (tgt := 43) cx (by decide) dX10_plan_32 (fun c13 => ?_) (fun c13 => ?_)
        · have h := g_f (Bool.eq_false_iff.mp c13) h
          refine z_ldc2 cx tb_442 dX10_plan_43 ?_
          obtain ⟨rfl, rfl⟩ := g_some h
          exact z_lreturn cx ce rfl ⟨rfl, rfl⟩ dX10_plan_46
        · have h := g_t c13 h
          refine z_iload_n cx rfl rfl dX10_plan_35 ?_
          refine z_iconst (v := 2) cx (by decide +kernel) dX10_plan_36 ?_
          obtain ⟨v14, S15, e16, h⟩ := g_bd_ex h
          refine q_csi (As := [.int a2, .int 2]) cx mo_X10_within ms_X10_within tb_171 (by decide) rfl rfl (Nat.le_of_ble_eq_true rfl) dX10_plan_37 (c_X10_within a2 2 _ e16) ?_
          refine q_ifb_ne (tgt := 47) cx (by decide) dX10_plan_40 (fun c17 => ?_) (fun c17 => ?_)
          · have h := g_t c17 h
            refine z_aload_n cx rfl rfl dX10_plan_47 ?_
            refine z_iload_n cx rfl rfl dX10_plan_48 ?_
            obtain ⟨v18, S19, e20, h⟩ := g_bd_ex h
            refine q_cvi (As := [.int a0]) cx mo_X10_findDoubts mv_X10_findDoubts z_cl10 rfl tb_592 (by decide) rfl (by decide) rfl rfl (Nat.le_of_ble_eq_true rfl) dX10_plan_49 (c_X10_findDoubts a0 _ e20) ?_
            refine q_ifb_ne (tgt := 59) cx (by decide) dX10_plan_52 (fun c21 => ?_) (fun c21 => ?_)
            · have h := g_t c21 h
              refine z_aload_n cx rfl rfl dX10_plan_59 ?_
              refine z_iload_n cx rfl rfl dX10_plan_60 ?_
              refine z_bipush (v := 64) cx (by decide +kernel) dX10_plan_61 ?_
              refine z_idiv cx (by decide +kernel) dX10_plan_63 ?_
              obtain ⟨v22, S23, e24, h⟩ := g_bd_ex h
              refine q_cvi (As := [.int (a1 / 64)]) cx mo_X10_wayBack mv_X10_wayBack z_cl10 rfl tb_528 (by decide) rfl (by decide) rfl rfl (Nat.le_of_ble_eq_true rfl) dX10_plan_64 (c_X10_wayBack (a1 / 64) _ e24) ?_
              refine z_i2l cx dX10_plan_67 ?_
              refine z_lstore (L' := [some (.ref (z_ad g 0)), some (.int a0), some (.int a1), some (.int a2), some (.long (Int32.toInt64 v22)), none, none, none, none, none, none]) cx (by decide) rfl dX10_plan_68 ?_
              refine z_iconst (v := 0) cx (by decide +kernel) dX10_plan_70 ?_
              refine z_istore (L' := [some (.ref (z_ad g 0)), some (.int a0), some (.int a1), some (.int a2), some (.long (Int32.toInt64 v22)), none, some (.int 0), none, none, none, none]) cx (by decide) rfl dX10_plan_71 ?_
              refine z_ldc2 cx tb_685 dX10_plan_73 ?_
              refine z_aload_n cx rfl rfl dX10_plan_76 ?_
              refine q_getF (k := 0) (n := 18) (r := 18) cx z_cl10 (j := 7) (by decide) tb_38 rfl (by decide) rfl rfl rfl dX10_plan_77 ?_
              refine q_getJ (k := 18) (n := 1805) cx z_cl2 (j := 5) (by decide) tb_686 rfl (by decide) rfl rfl rfl dX10_plan_80 ?_
              refine z_lmul cx dX10_plan_83 ?_
              refine z_lstore (L' := [some (.ref (z_ad g 0)), some (.int a0), some (.int a1), some (.int a2), some (.long (Int32.toInt64 v22)), none, some (.int 0), some (.long (12 * (S23.2.1 1805))), none, none, none]) cx (by decide) rfl dX10_plan_84 ?_
              refine z_ldc2 cx tb_685 dX10_plan_86 ?_
              refine z_aload_n cx rfl rfl dX10_plan_89 ?_
              refine q_getF (k := 0) (n := 18) (r := 18) cx z_cl10 (j := 7) (by decide) tb_38 rfl (by decide) rfl rfl rfl dX10_plan_90 ?_
              refine q_getJ (k := 18) (n := 1804) cx z_cl2 (j := 4) (by decide) tb_576 rfl (by decide) rfl rfl rfl dX10_plan_93 ?_
              refine z_lmul cx dX10_plan_96 ?_
              refine z_lload cx rfl dX10_plan_97 ?_
              refine z_lmul cx dX10_plan_99 ?_
              refine z_lload cx rfl dX10_plan_100 ?_
              refine z_lcmp cx dX10_plan_102 ?_
              refine z_if_ge (tgt := 125) cx (by decide) dX10_plan_103 (fun c25 => ?_) (fun c25 => ?_)
              · have h := g_t c25 h
                exact q_weak (z_wk_s (z_wk_n (z_wk_s (z_wk_s (z_wk_s (z_wk_n (z_wk_s (z_wk_s (z_wk_n (z_wk_n (z_wk_n (z_wk_0)))))))))))) (t_X10_plan_125 n cx ce a1 a2 (Int32.toInt64 v22) 0 (12 * (S23.2.1 1805)) S23 h)
              · have h := g_f c25 h
                refine z_iconst (v := 1) cx (by decide +kernel) dX10_plan_106 ?_
                refine z_istore (L' := [some (.ref (z_ad g 0)), some (.int a0), some (.int a1), some (.int a2), some (.long (Int32.toInt64 v22)), none, some (.int 1), some (.long (12 * (S23.2.1 1805))), none, none, none]) cx (by decide) rfl dX10_plan_107 ?_
                refine z_ldc2 cx tb_685 dX10_plan_109 ?_
                refine z_aload_n cx rfl rfl dX10_plan_112 ?_
                refine q_getF (k := 0) (n := 18) (r := 18) cx z_cl10 (j := 7) (by decide) tb_38 rfl (by decide) rfl rfl rfl dX10_plan_113 ?_
                refine q_getJ (k := 18) (n := 1804) cx z_cl2 (j := 4) (by decide) tb_576 rfl (by decide) rfl rfl rfl dX10_plan_116 ?_
                refine z_lmul cx dX10_plan_119 ?_
                refine z_lload cx rfl dX10_plan_120 ?_
                refine z_lmul cx dX10_plan_122 ?_
                refine z_lstore (L' := [some (.ref (z_ad g 0)), some (.int a0), some (.int a1), some (.int a2), some (.long (Int32.toInt64 v22)), none, some (.int 1), some (.long ((12 * (S23.2.1 1804)) * (Int32.toInt64 v22))), none, none, none]) cx (by decide) rfl dX10_plan_123 ?_
                exact q_weak (z_wk_s (z_wk_n (z_wk_s (z_wk_s (z_wk_s (z_wk_n (z_wk_s (z_wk_s (z_wk_n (z_wk_n (z_wk_n (z_wk_0)))))))))))) (t_X10_plan_125 n cx ce a1 a2 (Int32.toInt64 v22) 1 ((12 * (S23.2.1 1804)) * (Int32.toInt64 v22)) S23 h)
            · have h := g_f (Bool.eq_false_iff.mp c21) h
              refine z_ldc2 cx tb_443 dX10_plan_55 ?_
              obtain ⟨rfl, rfl⟩ := g_some h
              exact z_lreturn cx ce rfl ⟨rfl, rfl⟩ dX10_plan_58
          · have h := g_f (Bool.eq_false_iff.mp c17) h
            refine z_ldc2 cx tb_442 dX10_plan_43 ?_
            obtain ⟨rfl, rfl⟩ := g_some h
            exact z_lreturn cx ce rfl ⟨rfl, rfl⟩ dX10_plan_46
theorem c_X10_plan {g : z_G} {n : Nat} (a0 : Int32) (a1 : Int32) (a2 : Int32) (S : z_Stt) {v : Int64} {S' : z_Stt} (h : f_X10_plan n a0 a1 a2 S = some (v, S')) : z_Ct g M_X10_plan 6 [.ref (z_ad g 0), .int a0, .int a1, .int a2] (hp g S) (z_P g (some (.long v)) S') :=
  z_Ct.of (by decide +kernel) rfl (Nat.le_of_ble_eq_true rfl) (fun K cx ce => q_weak (L' := [some (.ref (z_ad g 0)), some (.int a0), some (.int a1), some (.int a2), none, none, none, none, none, none, none]) (z_wk_s (z_wk_s (z_wk_s (z_wk_s (z_wk_e (z_wk_e (z_wk_e (z_wk_e (z_wk_e (z_wk_e (z_wk_e (z_wk_0)))))))))))) (t_X10_plan n cx ce a0 a1 a2 S h))
abbrev M_X10_rung : z_M := (RX10, yX10_rung, cX10_rung, 1, some .int)
theorem mo_X10_rung : z_mo M_X10_rung 0 := ⟨tb_710, tb_2, rfl, ⟨by decide +kernel, by decide +kernel⟩, by decide +kernel, by decide⟩
theorem mv_X10_rung : z_mv M_X10_rung := ⟨tb_708, tb_709⟩
def f_X10_rung (S : z_Stt) : Option (Int32 × z_Stt) :=
  g_let (sI S 703 (if 12 < (S.1 703) + 1 then 12 else (S.1 703) + 1)) fun S1 =>
  some (S1.1 703, S1)
set_option maxHeartbeats 4000000 in
set_option maxRecDepth 100000 in
theorem t_X10_rung {g : z_G} {K : z_K} {v : Int32} {S' : z_Stt} (cx : z_C g M_X10_rung 1 K) (ce : z_E' g M_X10_rung (z_P g (some (.int v)) S') K) (S : z_Stt) (h : f_X10_rung S = some (v, S')) : z_At g M_X10_rung K 0 [some (.ref (z_ad g 0))] [] (hp g S) := by
  unfold f_X10_rung at h
  refine z_aload_n cx rfl rfl dX10_rung_0 ?_
  refine q_getF (k := 0) (n := 7) (r := 7) cx z_cl10 (j := 2) (by decide) tb_24 rfl (by decide) rfl rfl rfl dX10_rung_1 ?_
  refine z_aload_n cx rfl rfl dX10_rung_4 ?_
  refine q_getF (k := 0) (n := 7) (r := 7) cx z_cl10 (j := 2) (by decide) tb_24 rfl (by decide) rfl rfl rfl dX10_rung_5 ?_
  refine q_getI (k := 7) (n := 703) cx z_cl1 (j := 3) (by decide) tb_302 rfl (by decide) rfl rfl rfl dX10_rung_8 ?_
  refine z_iconst (v := 1) cx (by decide +kernel) dX10_rung_11 ?_
  refine z_iadd cx dX10_rung_12 ?_
  refine z_bipush (v := 12) cx (by decide +kernel) dX10_rung_13 ?_
  refine z_mmin cx tb_711 tb_238 tb_239 tb_240 (by decide) (Nat.le_of_ble_eq_true rfl) dX10_rung_15 ?_
  refine q_putI (k := 7) (n := 703) cx z_cl1 (j := 3) (by decide) tb_302 rfl rfl rfl (by decide) rfl rfl rfl (by decide) (by decide) dX10_rung_18 ?_
  obtain ⟨S1, e2, h⟩ := g_let_ex h
  rw [← e2]
  refine z_aload_n cx rfl rfl dX10_rung_21 ?_
  refine q_getF (k := 0) (n := 7) (r := 7) cx z_cl10 (j := 2) (by decide) tb_24 rfl (by decide) rfl rfl rfl dX10_rung_22 ?_
  refine q_getI (k := 7) (n := 703) cx z_cl1 (j := 3) (by decide) tb_302 rfl (by decide) rfl rfl rfl dX10_rung_25 ?_
  obtain ⟨rfl, rfl⟩ := g_some h
  exact z_ireturn cx ce rfl ⟨rfl, rfl⟩ dX10_rung_28
theorem c_X10_rung {g : z_G} (S : z_Stt) {v : Int32} {S' : z_Stt} (h : f_X10_rung S = some (v, S')) : z_Ct g M_X10_rung 1 [.ref (z_ad g 0)] (hp g S) (z_P g (some (.int v)) S') :=
  z_Ct.of (by decide +kernel) rfl (Nat.le_of_ble_eq_true rfl) (fun K cx ce => q_weak (L' := [some (.ref (z_ad g 0))]) (z_wk_s (z_wk_0)) (t_X10_rung cx ce S h))
abbrev M_X10_two : z_M := (RX10, yX10_two, cX10_two, 8, some .long)
theorem mo_X10_two : z_mo M_X10_two 3 := ⟨tb_719, tb_2, rfl, ⟨by decide +kernel, by decide +kernel⟩, by decide +kernel, by decide⟩
theorem mv_X10_two : z_mv M_X10_two := ⟨tb_717, tb_718⟩
def f_X10_two_183 (n : Nat) (x3 : Int32) (S : z_Stt) : Option (Int64 × z_Stt) :=
  g_bd (f_X4_part 17 x3 S) fun v1 S2 =>
  some (v1, S2)
set_option maxHeartbeats 4000000 in
set_option maxRecDepth 100000 in
theorem t_X10_two_183 {g : z_G} {K : z_K} (n : Nat) {v : Int64} {S' : z_Stt} (cx : z_C g M_X10_two 2 K) (ce : z_E' g M_X10_two (z_P g (some (.long v)) S') K) (x3 : Int32) (S : z_Stt) (h : f_X10_two_183 n x3 S = some (v, S')) : z_At g M_X10_two K 183 [some (.ref (z_ad g 0)), none, none, some (.int x3), none, none, none, none] [] (hp g S) := by
  unfold f_X10_two_183 at h
  refine z_aload_n cx rfl rfl dX10_two_183 ?_
  refine q_getF (k := 0) (n := 17) (r := 17) cx z_cl10 (j := 6) (by decide) tb_34 rfl (by decide) rfl rfl rfl dX10_two_184 ?_
  refine z_iload_n cx rfl rfl dX10_two_187 ?_
  obtain ⟨v1, S2, e3, h⟩ := g_bd_ex h
  refine q_cvl (As := [.int x3]) cx mo_X4_part mv_X4_part z_cl4 rfl tb_476 (by decide) rfl (by decide) rfl rfl (Nat.le_of_ble_eq_true rfl) dX10_two_188 (c_X4_part 17 x3 _ wp4_17 e3) ?_
  obtain ⟨rfl, rfl⟩ := g_some h
  exact z_lreturn cx ce rfl ⟨rfl, rfl⟩ dX10_two_191
def f_X10_two (n : Nat) (a0 : Int32) (a1 : Int32) (a2 : Int32) (S : z_Stt) : Option (Int64 × z_Stt) :=
  if a0 < 0 then
    some ((-9223372036854775808), S)
  else
    g_bd (f_X10_within (a0 / 100) 12 S) fun v2 S3 =>
    if v2 = true then
      g_bd (f_X10_within (a0 % 100) 12 S3) fun v6 S7 =>
      if v6 = true then
        g_bd (f_X10_within a1 3 S7) fun v10 S11 =>
        if v10 = true then
          g_bd (f_X10_within a2 1 S11) fun v14 S15 =>
          if v14 = true then
            if a1 = 0 then
              g_bd (f_X4_become n 17 (Int32.toInt64 ((12 - (a0 / 100)) * (12 - (a0 % 100)))) 144 S15) fun v19 S20 =>
              f_X10_two_183 n a2 S20
            else if a1 = 1 then
              g_bd (f_X4_become n 17 (Int32.toInt64 ((144 - ((12 - (a0 / 100)) * (12 - (a0 % 100)))) - ((a0 / 100) * (a0 % 100)))) 144 S15) fun v23 S24 =>
              f_X10_two_183 n a2 S24
            else if a1 = 2 then
              g_bd (f_X4_become n 17 (Int32.toInt64 ((a0 / 100) * (a0 % 100))) 144 S15) fun v27 S28 =>
              f_X10_two_183 n a2 S28
            else 
              g_bd (f_X4_become n 17 (Int32.toInt64 (((12 - (a0 / 100)) * (12 - (a0 % 100))) + ((a0 / 100) * (a0 % 100)))) 144 S15) fun v30 S31 =>
              f_X10_two_183 n a2 S31
          else
            some ((-9223372036854775808), S15)
        else
          some ((-9223372036854775808), S11)
      else
        some ((-9223372036854775808), S7)
    else
      some ((-9223372036854775808), S3)
set_option maxHeartbeats 4000000 in
set_option maxRecDepth 100000 in
theorem t_X10_two {g : z_G} {K : z_K} (n : Nat) {v : Int64} {S' : z_Stt} (cx : z_C g M_X10_two 2 K) (ce : z_E' g M_X10_two (z_P g (some (.long v)) S') K) (a0 : Int32) (a1 : Int32) (a2 : Int32) (S : z_Stt) (h : f_X10_two n a0 a1 a2 S = some (v, S')) : z_At g M_X10_two K 0 [some (.ref (z_ad g 0)), some (.int a0), some (.int a1), some (.int a2), none, none, none, none] [] (hp g S) := by
  unfold f_X10_two at h
  refine z_iload_n cx rfl rfl dX10_two_0 ?_
  refine z_if_lt (tgt := 44) cx (by decide) dX10_two_1 (fun c1 => ?_) (fun c1 => ?_)
  · have h := g_t c1 h
    refine z_ldc2 cx tb_442 dX10_two_44 ?_
    obtain ⟨rfl, rfl⟩ := g_some h
    exact z_lreturn cx ce rfl ⟨rfl, rfl⟩ dX10_two_47
  · have h := g_f c1 h
    refine z_iload_n cx rfl rfl dX10_two_4 ?_
    refine z_bipush (v := 100) cx (by decide +kernel) dX10_two_5 ?_
    refine z_idiv cx (by decide +kernel) dX10_two_7 ?_
    refine z_bipush (v := 12) cx (by decide +kernel) dX10_two_8 ?_
    obtain ⟨v2, S3, e4, h⟩ := g_bd_ex h
    refine q_csi (As := [.int (a0 / 100), .int 12]) cx mo_X10_within ms_X10_within tb_171 (by decide) rfl rfl (Nat.le_of_ble_eq_true rfl) dX10_two_10 (c_X10_within (a0 / 100) 12 _ e4) ?_
    refine q_ifb_eq (tgt := 44) cx (by decide) dX10_two_13 (fun c5 => ?_) (fun c5 => ?_)
    · have h := g_f (Bool.eq_false_iff.mp c5) h
      refine z_ldc2 cx tb_442 dX10_two_44 ?_
      obtain ⟨rfl, rfl⟩ := g_some h
      exact z_lreturn cx ce rfl ⟨rfl, rfl⟩ dX10_two_47
    · have h := g_t c5 h
      refine z_iload_n cx rfl rfl dX10_two_16 ?_
      refine z_bipush (v := 100) cx (by decide +kernel) dX10_two_17 ?_
      refine z_irem cx (by decide +kernel) dX10_two_19 ?_
      refine z_bipush (v := 12) cx (by decide +kernel) dX10_two_20 ?_
      obtain ⟨v6, S7, e8, h⟩ := g_bd_ex h
      refine q_csi (As := [.int (a0 % 100), .int 12]) cx mo_X10_within ms_X10_within tb_171 (by decide) rfl rfl (Nat.le_of_ble_eq_true rfl) dX10_two_22 (c_X10_within (a0 % 100) 12 _ e8) ?_
      refine q_ifb_eq (tgt := 44) cx (by decide) dX10_two_25 (fun c9 => ?_) (fun c9 => ?_)
      · have h := g_f (Bool.eq_false_iff.mp c9) h
        refine z_ldc2 cx tb_442 dX10_two_44 ?_
        obtain ⟨rfl, rfl⟩ := g_some h
        exact z_lreturn cx ce rfl ⟨rfl, rfl⟩ dX10_two_47
      · have h := g_t c9 h
        refine z_iload_n cx rfl rfl dX10_two_28 ?_
        refine z_iconst (v := 3) cx (by decide +kernel) dX10_two_29 ?_
        obtain ⟨v10, S11, e12, h⟩ := g_bd_ex h
        refine q_csi (As := [.int a1, .int 3]) cx mo_X10_within ms_X10_within tb_171 (by decide) rfl rfl (Nat.le_of_ble_eq_true rfl) dX10_two_30 (c_X10_within a1 3 _ e12) ?_
        refine q_ifb_eq (tgt := 44) cx (by decide) dX10_two_33 (fun c13 => ?_) (fun c13 => ?_)
        · have h := g_f (Bool.eq_false_iff.mp c13) h
          refine z_ldc2 cx tb_442 dX10_two_44 ?_
          obtain ⟨rfl, rfl⟩ := g_some h
          exact z_lreturn cx ce rfl ⟨rfl, rfl⟩ dX10_two_47
        · have h := g_t c13 h
          refine z_iload_n cx rfl rfl dX10_two_36 ?_
          refine z_iconst (v := 1) cx (by decide +kernel) dX10_two_37 ?_
          obtain ⟨v14, S15, e16, h⟩ := g_bd_ex h
          refine q_csi (As := [.int a2, .int 1]) cx mo_X10_within ms_X10_within tb_171 (by decide) rfl rfl (Nat.le_of_ble_eq_true rfl) dX10_two_38 (c_X10_within a2 1 _ e16) ?_
          refine q_ifb_ne (tgt := 48) cx (by decide) dX10_two_41 (fun c17 => ?_) (fun c17 => ?_)
          · have h := g_t c17 h
            refine z_iload_n cx rfl rfl dX10_two_48 ?_
            refine z_bipush (v := 100) cx (by decide +kernel) dX10_two_49 ?_
            refine z_idiv cx (by decide +kernel) dX10_two_51 ?_
            refine z_istore (L' := [some (.ref (z_ad g 0)), some (.int a0), some (.int a1), some (.int a2), some (.int (a0 / 100)), none, none, none]) cx (by decide) rfl dX10_two_52 ?_
            refine z_iload_n cx rfl rfl dX10_two_54 ?_
            refine z_bipush (v := 100) cx (by decide +kernel) dX10_two_55 ?_
            refine z_irem cx (by decide +kernel) dX10_two_57 ?_
            refine z_istore (L' := [some (.ref (z_ad g 0)), some (.int a0), some (.int a1), some (.int a2), some (.int (a0 / 100)), some (.int (a0 % 100)), none, none]) cx (by decide) rfl dX10_two_58 ?_
            refine z_bipush (v := 12) cx (by decide +kernel) dX10_two_60 ?_
            refine z_iload cx rfl dX10_two_62 ?_
            refine z_isub cx dX10_two_64 ?_
            refine z_bipush (v := 12) cx (by decide +kernel) dX10_two_65 ?_
            refine z_iload cx rfl dX10_two_67 ?_
            refine z_isub cx dX10_two_69 ?_
            refine z_imul cx dX10_two_70 ?_
            refine z_istore (L' := [some (.ref (z_ad g 0)), some (.int a0), some (.int a1), some (.int a2), some (.int (a0 / 100)), some (.int (a0 % 100)), some (.int ((12 - (a0 / 100)) * (12 - (a0 % 100)))), none]) cx (by decide) rfl dX10_two_71 ?_
            refine z_iload cx rfl dX10_two_73 ?_
            refine z_iload cx rfl dX10_two_75 ?_
            refine z_imul cx dX10_two_77 ?_
            refine z_istore (L' := [some (.ref (z_ad g 0)), some (.int a0), some (.int a1), some (.int a2), some (.int (a0 / 100)), some (.int (a0 % 100)), some (.int ((12 - (a0 / 100)) * (12 - (a0 % 100)))), some (.int ((a0 / 100) * (a0 % 100)))]) cx (by decide) rfl dX10_two_78 ?_
            refine z_iload_n cx rfl rfl dX10_two_80 ?_
            by_cases c18 : a1 = 0
            · have h := g_t c18 h
              refine z_tableIn (tgt := 108) (off := 27) cx (by rw [c18]; decide +kernel) (by rw [c18]; decide +kernel) (by rw [c18]; decide +kernel) (by decide) dX10_two_81 ?_
              refine z_aload_n cx rfl rfl dX10_two_108 ?_
              refine q_getF (k := 0) (n := 17) (r := 17) cx z_cl10 (j := 6) (by decide) tb_34 rfl (by decide) rfl rfl rfl dX10_two_109 ?_
              refine z_iload cx rfl dX10_two_112 ?_
              refine z_i2l cx dX10_two_114 ?_
              refine z_ldc2 cx tb_448 dX10_two_115 ?_
              obtain ⟨v19, S20, e21, h⟩ := g_bd_ex h
              refine q_cvi (As := [.long (Int32.toInt64 ((12 - (a0 / 100)) * (12 - (a0 % 100)))), .long 144]) cx mo_X4_become mv_X4_become z_cl4 rfl tb_454 (by decide) rfl (by decide) rfl rfl (Nat.le_of_ble_eq_true rfl) dX10_two_118 (c_X4_become 17 (Int32.toInt64 ((12 - (a0 / 100)) * (12 - (a0 % 100)))) 144 _ wp4_17 e21) ?_
              refine z_pop cx rfl dX10_two_121 ?_
              refine z_goto (tgt := 183) cx (by decide) dX10_two_122 ?_
              exact q_weak (z_wk_s (z_wk_n (z_wk_n (z_wk_s (z_wk_n (z_wk_n (z_wk_n (z_wk_n (z_wk_0))))))))) (t_X10_two_183 n cx ce a2 S20 h)
            have h := g_f c18 h
            by_cases c22 : a1 = 1
            · have h := g_t c22 h
              refine z_tableIn (tgt := 125) (off := 44) cx (by rw [c22]; decide +kernel) (by rw [c22]; decide +kernel) (by rw [c22]; decide +kernel) (by decide) dX10_two_81 ?_
              refine z_aload_n cx rfl rfl dX10_two_125 ?_
              refine q_getF (k := 0) (n := 17) (r := 17) cx z_cl10 (j := 6) (by decide) tb_34 rfl (by decide) rfl rfl rfl dX10_two_126 ?_
              refine z_sipush (v := 144) cx (by decide +kernel) dX10_two_129 ?_
              refine z_iload cx rfl dX10_two_132 ?_
              refine z_isub cx dX10_two_134 ?_
              refine z_iload cx rfl dX10_two_135 ?_
              refine z_isub cx dX10_two_137 ?_
              refine z_i2l cx dX10_two_138 ?_
              refine z_ldc2 cx tb_448 dX10_two_139 ?_
              obtain ⟨v23, S24, e25, h⟩ := g_bd_ex h
              refine q_cvi (As := [.long (Int32.toInt64 ((144 - ((12 - (a0 / 100)) * (12 - (a0 % 100)))) - ((a0 / 100) * (a0 % 100)))), .long 144]) cx mo_X4_become mv_X4_become z_cl4 rfl tb_454 (by decide) rfl (by decide) rfl rfl (Nat.le_of_ble_eq_true rfl) dX10_two_142 (c_X4_become 17 (Int32.toInt64 ((144 - ((12 - (a0 / 100)) * (12 - (a0 % 100)))) - ((a0 / 100) * (a0 % 100)))) 144 _ wp4_17 e25) ?_
              refine z_pop cx rfl dX10_two_145 ?_
              refine z_goto (tgt := 183) cx (by decide) dX10_two_146 ?_
              exact q_weak (z_wk_s (z_wk_n (z_wk_n (z_wk_s (z_wk_n (z_wk_n (z_wk_n (z_wk_n (z_wk_0))))))))) (t_X10_two_183 n cx ce a2 S24 h)
            have h := g_f c22 h
            by_cases c26 : a1 = 2
            · have h := g_t c26 h
              refine z_tableIn (tgt := 149) (off := 68) cx (by rw [c26]; decide +kernel) (by rw [c26]; decide +kernel) (by rw [c26]; decide +kernel) (by decide) dX10_two_81 ?_
              refine z_aload_n cx rfl rfl dX10_two_149 ?_
              refine q_getF (k := 0) (n := 17) (r := 17) cx z_cl10 (j := 6) (by decide) tb_34 rfl (by decide) rfl rfl rfl dX10_two_150 ?_
              refine z_iload cx rfl dX10_two_153 ?_
              refine z_i2l cx dX10_two_155 ?_
              refine z_ldc2 cx tb_448 dX10_two_156 ?_
              obtain ⟨v27, S28, e29, h⟩ := g_bd_ex h
              refine q_cvi (As := [.long (Int32.toInt64 ((a0 / 100) * (a0 % 100))), .long 144]) cx mo_X4_become mv_X4_become z_cl4 rfl tb_454 (by decide) rfl (by decide) rfl rfl (Nat.le_of_ble_eq_true rfl) dX10_two_159 (c_X4_become 17 (Int32.toInt64 ((a0 / 100) * (a0 % 100))) 144 _ wp4_17 e29) ?_
              refine z_pop cx rfl dX10_two_162 ?_
              refine z_goto (tgt := 183) cx (by decide) dX10_two_163 ?_
              exact q_weak (z_wk_s (z_wk_n (z_wk_n (z_wk_s (z_wk_n (z_wk_n (z_wk_n (z_wk_n (z_wk_0))))))))) (t_X10_two_183 n cx ce a2 S28 h)
            have h := g_f c26 h
            refine q_tableD (tgt := 166) (lo := 0) (hi := 2) cx [0, 1, 2] (by decide +kernel) (by intro a ha; simp only [List.mem_cons, List.not_mem_nil, or_false] at ha; rcases ha with rfl | rfl | rfl <;> assumption) (by decide) dX10_two_81 ?_
            refine z_aload_n cx rfl rfl dX10_two_166 ?_
            refine q_getF (k := 0) (n := 17) (r := 17) cx z_cl10 (j := 6) (by decide) tb_34 rfl (by decide) rfl rfl rfl dX10_two_167 ?_
            refine z_iload cx rfl dX10_two_170 ?_
            refine z_iload cx rfl dX10_two_172 ?_
            refine z_iadd cx dX10_two_174 ?_
            refine z_i2l cx dX10_two_175 ?_
            refine z_ldc2 cx tb_448 dX10_two_176 ?_
            obtain ⟨v30, S31, e32, h⟩ := g_bd_ex h
            refine q_cvi (As := [.long (Int32.toInt64 (((12 - (a0 / 100)) * (12 - (a0 % 100))) + ((a0 / 100) * (a0 % 100)))), .long 144]) cx mo_X4_become mv_X4_become z_cl4 rfl tb_454 (by decide) rfl (by decide) rfl rfl (Nat.le_of_ble_eq_true rfl) dX10_two_179 (c_X4_become 17 (Int32.toInt64 (((12 - (a0 / 100)) * (12 - (a0 % 100))) + ((a0 / 100) * (a0 % 100)))) 144 _ wp4_17 e32) ?_
            refine z_pop cx rfl dX10_two_182 ?_
            exact q_weak (z_wk_s (z_wk_n (z_wk_n (z_wk_s (z_wk_n (z_wk_n (z_wk_n (z_wk_n (z_wk_0))))))))) (t_X10_two_183 n cx ce a2 S31 h)
          · have h := g_f (Bool.eq_false_iff.mp c17) h
            refine z_ldc2 cx tb_442 dX10_two_44 ?_
            obtain ⟨rfl, rfl⟩ := g_some h
            exact z_lreturn cx ce rfl ⟨rfl, rfl⟩ dX10_two_47
theorem c_X10_two {g : z_G} {n : Nat} (a0 : Int32) (a1 : Int32) (a2 : Int32) (S : z_Stt) {v : Int64} {S' : z_Stt} (h : f_X10_two n a0 a1 a2 S = some (v, S')) : z_Ct g M_X10_two 2 [.ref (z_ad g 0), .int a0, .int a1, .int a2] (hp g S) (z_P g (some (.long v)) S') :=
  z_Ct.of (by decide +kernel) rfl (Nat.le_of_ble_eq_true rfl) (fun K cx ce => q_weak (L' := [some (.ref (z_ad g 0)), some (.int a0), some (.int a1), some (.int a2), none, none, none, none]) (z_wk_s (z_wk_s (z_wk_s (z_wk_s (z_wk_e (z_wk_e (z_wk_e (z_wk_e (z_wk_0))))))))) (t_X10_two n cx ce a0 a1 a2 S h))
abbrev M_X10_shortest : z_M := (RX10, yX10_shortest, cX10_shortest, 4, some .int)
theorem mo_X10_shortest : z_mo M_X10_shortest 3 := ⟨tb_728, tb_2, rfl, ⟨by decide +kernel, by decide +kernel⟩, by decide +kernel, by decide⟩
theorem mv_X10_shortest : z_mv M_X10_shortest := ⟨tb_726, tb_727⟩
def f_X10_shortest (n : Nat) (a0 : Int32) (a1 : Int32) (a2 : Int32) (S : z_Stt) : Option (Int32 × z_Stt) :=
  if a0 < 0 then
    some ((-1), S)
  else
    g_bd (f_X10_within (a0 / 10) 5 S) fun v2 S3 =>
    if v2 = true then
      g_bd (f_X10_within (a0 % 10) 5 S3) fun v6 S7 =>
      if v6 = true then
        g_bd (f_X10_within a1 63 S7) fun v10 S11 =>
        if v10 = true then
          if (-1) ≤ a2 then
            g_bd (f_X7_find n (a0 / 10) (a0 % 10) a1 S11) fun v15 S16 =>
            if 0 ≤ a2 then
              if S16.1 2802 ≤ a2 then
                some ((-2), S16)
              else
                if ¬ (a2 < 0 ∨ 7 ≤ a2.toNatClampNeg) then
                  some (S16.2.2.1 30 a2.toNatClampNeg, S16)
                else none
            else
              some (S16.1 2803, S16)
          else
            some ((-1), S11)
        else
          some ((-1), S11)
      else
        some ((-1), S7)
    else
      some ((-1), S3)
set_option maxHeartbeats 4000000 in
set_option maxRecDepth 100000 in
theorem t_X10_shortest {g : z_G} {K : z_K} (n : Nat) {v : Int32} {S' : z_Stt} (cx : z_C g M_X10_shortest 5 K) (ce : z_E' g M_X10_shortest (z_P g (some (.int v)) S') K) (a0 : Int32) (a1 : Int32) (a2 : Int32) (S : z_Stt) (h : f_X10_shortest n a0 a1 a2 S = some (v, S')) : z_At g M_X10_shortest K 0 [some (.ref (z_ad g 0)), some (.int a0), some (.int a1), some (.int a2)] [] (hp g S) := by
  unfold f_X10_shortest at h
  refine z_iload_n cx rfl rfl dX10_shortest_0 ?_
  refine z_if_lt (tgt := 26) cx (by decide) dX10_shortest_1 (fun c1 => ?_) (fun c1 => ?_)
  · have h := g_t c1 h
    refine z_iconst (v := (-1)) cx (by decide +kernel) dX10_shortest_26 ?_
    obtain ⟨rfl, rfl⟩ := g_some h
    exact z_ireturn cx ce rfl ⟨rfl, rfl⟩ dX10_shortest_27
  · have h := g_f c1 h
    refine z_iload_n cx rfl rfl dX10_shortest_4 ?_
    refine z_bipush (v := 10) cx (by decide +kernel) dX10_shortest_5 ?_
    refine z_idiv cx (by decide +kernel) dX10_shortest_7 ?_
    refine z_iconst (v := 5) cx (by decide +kernel) dX10_shortest_8 ?_
    obtain ⟨v2, S3, e4, h⟩ := g_bd_ex h
    refine q_csi (As := [.int (a0 / 10), .int 5]) cx mo_X10_within ms_X10_within tb_171 (by decide) rfl rfl (Nat.le_of_ble_eq_true rfl) dX10_shortest_9 (c_X10_within (a0 / 10) 5 _ e4) ?_
    refine q_ifb_eq (tgt := 26) cx (by decide) dX10_shortest_12 (fun c5 => ?_) (fun c5 => ?_)
    · have h := g_f (Bool.eq_false_iff.mp c5) h
      refine z_iconst (v := (-1)) cx (by decide +kernel) dX10_shortest_26 ?_
      obtain ⟨rfl, rfl⟩ := g_some h
      exact z_ireturn cx ce rfl ⟨rfl, rfl⟩ dX10_shortest_27
    · have h := g_t c5 h
      refine z_iload_n cx rfl rfl dX10_shortest_15 ?_
      refine z_bipush (v := 10) cx (by decide +kernel) dX10_shortest_16 ?_
      refine z_irem cx (by decide +kernel) dX10_shortest_18 ?_
      refine z_iconst (v := 5) cx (by decide +kernel) dX10_shortest_19 ?_
      obtain ⟨v6, S7, e8, h⟩ := g_bd_ex h
      refine q_csi (As := [.int (a0 % 10), .int 5]) cx mo_X10_within ms_X10_within tb_171 (by decide) rfl rfl (Nat.le_of_ble_eq_true rfl) dX10_shortest_20 (c_X10_within (a0 % 10) 5 _ e8) ?_
      refine q_ifb_ne (tgt := 28) cx (by decide) dX10_shortest_23 (fun c9 => ?_) (fun c9 => ?_)
      · have h := g_t c9 h
        refine z_iload_n cx rfl rfl dX10_shortest_28 ?_
        refine z_bipush (v := 63) cx (by decide +kernel) dX10_shortest_29 ?_
        obtain ⟨v10, S11, e12, h⟩ := g_bd_ex h
        refine q_csi (As := [.int a1, .int 63]) cx mo_X10_within ms_X10_within tb_171 (by decide) rfl rfl (Nat.le_of_ble_eq_true rfl) dX10_shortest_31 (c_X10_within a1 63 _ e12) ?_
        refine q_ifb_eq (tgt := 42) cx (by decide) dX10_shortest_34 (fun c13 => ?_) (fun c13 => ?_)
        · have h := g_f (Bool.eq_false_iff.mp c13) h
          refine z_iconst (v := (-1)) cx (by decide +kernel) dX10_shortest_42 ?_
          obtain ⟨rfl, rfl⟩ := g_some h
          exact z_ireturn cx ce rfl ⟨rfl, rfl⟩ dX10_shortest_43
        · have h := g_t c13 h
          refine z_iload_n cx rfl rfl dX10_shortest_37 ?_
          refine z_iconst (v := (-1)) cx (by decide +kernel) dX10_shortest_38 ?_
          refine z_icmp_ge (tgt := 44) cx (by decide) dX10_shortest_39 (fun c14 => ?_) (fun c14 => ?_)
          · have h := g_t c14 h
            refine z_aload_n cx rfl rfl dX10_shortest_44 ?_
            refine q_getF (k := 0) (n := 28) (r := 28) cx z_cl10 (j := 8) (by decide) tb_42 rfl (by decide) rfl rfl rfl dX10_shortest_45 ?_
            refine z_aload_n cx rfl rfl dX10_shortest_48 ?_
            refine q_getF (k := 0) (n := 1) (r := 1) cx z_cl10 (j := 0) (by decide) tb_16 rfl (by decide) rfl rfl rfl dX10_shortest_49 ?_
            refine z_iload_n cx rfl rfl dX10_shortest_52 ?_
            refine z_bipush (v := 10) cx (by decide +kernel) dX10_shortest_53 ?_
            refine z_idiv cx (by decide +kernel) dX10_shortest_55 ?_
            refine z_iload_n cx rfl rfl dX10_shortest_56 ?_
            refine z_bipush (v := 10) cx (by decide +kernel) dX10_shortest_57 ?_
            refine z_irem cx (by decide +kernel) dX10_shortest_59 ?_
            refine z_iload_n cx rfl rfl dX10_shortest_60 ?_
            obtain ⟨v15, S16, e17, h⟩ := g_bd_ex h
            refine q_cvv (As := [.ref (z_ad g 1), .int (a0 / 10), .int (a0 % 10), .int a1]) cx mo_X7_find mv_X7_find z_cl7 rfl tb_732 (by decide) rfl (by decide) rfl rfl (Nat.le_of_ble_eq_true rfl) dX10_shortest_61 (c_X7_find (a0 / 10) (a0 % 10) a1 _ e17) ?_
            refine z_iload_n cx rfl rfl dX10_shortest_64 ?_
            refine z_if_ge (tgt := 76) cx (by decide) dX10_shortest_65 (fun c18 => ?_) (fun c18 => ?_)
            · have h := g_t c18 h
              refine z_iload_n cx rfl rfl dX10_shortest_76 ?_
              refine z_aload_n cx rfl rfl dX10_shortest_77 ?_
              refine q_getF (k := 0) (n := 28) (r := 28) cx z_cl10 (j := 8) (by decide) tb_42 rfl (by decide) rfl rfl rfl dX10_shortest_78 ?_
              refine q_getI (k := 28) (n := 2802) cx z_cl7 (j := 2) (by decide) tb_730 rfl (by decide) rfl rfl rfl dX10_shortest_81 ?_
              refine z_icmp_ge (tgt := 99) cx (by decide) dX10_shortest_84 (fun c19 => ?_) (fun c19 => ?_)
              · have h := g_t c19 h
                refine z_bipush (v := (-2)) cx (by decide +kernel) dX10_shortest_99 ?_
                obtain ⟨rfl, rfl⟩ := g_some h
                exact z_ireturn cx ce rfl ⟨rfl, rfl⟩ dX10_shortest_101
              · have h := g_f c19 h
                refine z_aload_n cx rfl rfl dX10_shortest_87 ?_
                refine q_getF (k := 0) (n := 28) (r := 28) cx z_cl10 (j := 8) (by decide) tb_42 rfl (by decide) rfl rfl rfl dX10_shortest_88 ?_
                refine q_getF (k := 28) (n := 30) (r := 2) cx z_cl7 (j := 1) (by decide) tb_731 rfl (by decide) rfl rfl rfl dX10_shortest_91 ?_
                refine z_iload_n cx rfl rfl dX10_shortest_94 ?_
                obtain ⟨c20, h⟩ := g_if h
                refine q_iald cx (by decide) rfl c20 dX10_shortest_95 ?_
                refine z_goto (tgt := 101) cx (by decide) dX10_shortest_96 ?_
                obtain ⟨rfl, rfl⟩ := g_some h
                exact z_ireturn cx ce rfl ⟨rfl, rfl⟩ dX10_shortest_101
            · have h := g_f c18 h
              refine z_aload_n cx rfl rfl dX10_shortest_68 ?_
              refine q_getF (k := 0) (n := 28) (r := 28) cx z_cl10 (j := 8) (by decide) tb_42 rfl (by decide) rfl rfl rfl dX10_shortest_69 ?_
              refine q_getI (k := 28) (n := 2803) cx z_cl7 (j := 3) (by decide) tb_729 rfl (by decide) rfl rfl rfl dX10_shortest_72 ?_
              obtain ⟨rfl, rfl⟩ := g_some h
              exact z_ireturn cx ce rfl ⟨rfl, rfl⟩ dX10_shortest_75
          · have h := g_f c14 h
            refine z_iconst (v := (-1)) cx (by decide +kernel) dX10_shortest_42 ?_
            obtain ⟨rfl, rfl⟩ := g_some h
            exact z_ireturn cx ce rfl ⟨rfl, rfl⟩ dX10_shortest_43
      · have h := g_f (Bool.eq_false_iff.mp c9) h
        refine z_iconst (v := (-1)) cx (by decide +kernel) dX10_shortest_26 ?_
        obtain ⟨rfl, rfl⟩ := g_some h
        exact z_ireturn cx ce rfl ⟨rfl, rfl⟩ dX10_shortest_27
theorem c_X10_shortest {g : z_G} {n : Nat} (a0 : Int32) (a1 : Int32) (a2 : Int32) (S : z_Stt) {v : Int32} {S' : z_Stt} (h : f_X10_shortest n a0 a1 a2 S = some (v, S')) : z_Ct g M_X10_shortest 5 [.ref (z_ad g 0), .int a0, .int a1, .int a2] (hp g S) (z_P g (some (.int v)) S') :=
  z_Ct.of (by decide +kernel) rfl (Nat.le_of_ble_eq_true rfl) (fun K cx ce => q_weak (L' := [some (.ref (z_ad g 0)), some (.int a0), some (.int a1), some (.int a2)]) (z_wk_s (z_wk_s (z_wk_s (z_wk_s (z_wk_0))))) (t_X10_shortest n cx ce a0 a1 a2 S h))
abbrev M_X10_areRooms : z_M := (RX10, yX10_areRooms, cX10_areRooms, 2, some .boolean)
theorem mo_X10_areRooms : z_mo M_X10_areRooms 1 := ⟨tb_789, tb_2, rfl, ⟨by decide +kernel, by decide +kernel⟩, by decide +kernel, by decide⟩
theorem ms_X10_areRooms : z_ms M_X10_areRooms := tb_788
def f_X10_areRooms_2 (n : Nat) : Nat → Nat → Int32 → z_Stt → Option (Bool × z_Stt)
  | 0, _, _, _ => none
  | m + 1, x0, x1, S =>
    if S.1 (100 * x0 + 3) ≤ x1 then
      some (true, S)
    else
      g_bd (f_X8_at x0 x1 S) fun v2 S3 =>
      if lg_cmp v2 0 < 0 then
        some (false, S3)
      else
        g_bd (f_X8_at x0 x1 S3) fun v6 S7 =>
        if lg_cmp v6 6 < 0 then
          f_X10_areRooms_2 n m x0 (x1 + 1) S7
        else
          some (false, S7)
set_option maxHeartbeats 4000000 in
set_option maxRecDepth 100000 in
theorem t_X10_areRooms_2 {g : z_G} {K : z_K} (n : Nat) {v : Bool} {S' : z_Stt} (cx : z_C g M_X10_areRooms 1 K) (ce : z_E' g M_X10_areRooms (z_P g (some (.int (bI v))) S') K) : ∀ (m : Nat) (x0 : Nat) (x1 : Int32) (S : z_Stt) (wx0 : wp8 x0) (h : f_X10_areRooms_2 n m x0 x1 S = some (v, S')), z_At g M_X10_areRooms K 2 [some (.ref (z_ad g x0)), some (.int x1)] [] (hp g S) := by
  intro m
  induction m with
  | zero => intro x0 x1 S wx0 h; simp [f_X10_areRooms_2] at h
  | succ m ih =>
    intro x0 x1 S wx0 h
    rw [f_X10_areRooms_2] at h
    refine z_iload_n cx rfl rfl dX10_areRooms_2 ?_
    refine z_aload_n cx rfl rfl dX10_areRooms_3 ?_
    refine q_getI (k := x0) (n := 100 * x0 + 3) cx z_cl8 (j := 3) (by decide) tb_210 rfl wx0.1 wx0.2.1 rfl rfl dX10_areRooms_4 ?_
    refine z_icmp_ge (tgt := 40) cx (by decide) dX10_areRooms_7 (fun c1 => ?_) (fun c1 => ?_)
    · have h := g_t c1 h
      refine z_iconst (v := 1) cx (by decide +kernel) dX10_areRooms_40 ?_
      obtain ⟨rfl, rfl⟩ := g_some h
      exact z_zreturn cx ce rfl (by decide +kernel) ⟨rfl, rfl⟩ dX10_areRooms_41
    · have h := g_f c1 h
      refine z_aload_n cx rfl rfl dX10_areRooms_10 ?_
      refine z_iload_n cx rfl rfl dX10_areRooms_11 ?_
      obtain ⟨v2, S3, e4, h⟩ := g_bd_ex h
      refine q_cvl (As := [.int x1]) cx mo_X8_at mv_X8_at z_cl8 rfl tb_211 (by decide) rfl wx0.1 wx0.2.1 rfl (Nat.le_of_ble_eq_true rfl) dX10_areRooms_12 (c_X8_at x0 x1 _ wx0 e4) ?_
      refine z_lconst (v := 0) cx (by decide +kernel) dX10_areRooms_15 ?_
      refine z_lcmp cx dX10_areRooms_16 ?_
      refine z_if_lt (tgt := 32) cx (by decide) dX10_areRooms_17 (fun c5 => ?_) (fun c5 => ?_)
      · have h := g_t c5 h
        refine z_iconst (v := 0) cx (by decide +kernel) dX10_areRooms_32 ?_
        obtain ⟨rfl, rfl⟩ := g_some h
        exact z_zreturn cx ce rfl (by decide +kernel) ⟨rfl, rfl⟩ dX10_areRooms_33
      · have h := g_f c5 h
        refine z_aload_n cx rfl rfl dX10_areRooms_20 ?_
        refine z_iload_n cx rfl rfl dX10_areRooms_21 ?_
        obtain ⟨v6, S7, e8, h⟩ := g_bd_ex h
        refine q_cvl (As := [.int x1]) cx mo_X8_at mv_X8_at z_cl8 rfl tb_211 (by decide) rfl wx0.1 wx0.2.1 rfl (Nat.le_of_ble_eq_true rfl) dX10_areRooms_22 (c_X8_at x0 x1 _ wx0 e8) ?_
        refine z_ldc2 cx tb_790 dX10_areRooms_25 ?_
        refine z_lcmp cx dX10_areRooms_28 ?_
        refine z_if_lt (tgt := 34) cx (by decide) dX10_areRooms_29 (fun c9 => ?_) (fun c9 => ?_)
        · have h := g_t c9 h
          refine z_iinc (c := 1) (L' := [some (.ref (z_ad g x0)), some (.int (x1 + 1))]) cx rfl (by decide +kernel) (by decide) rfl dX10_areRooms_34 ?_
          refine z_goto (tgt := 2) cx (by decide) dX10_areRooms_37 ?_
          exact q_weak (z_wk_s (z_wk_s (z_wk_0))) (ih x0 (x1 + 1) S7 wx0 h)
        · have h := g_f c9 h
          refine z_iconst (v := 0) cx (by decide +kernel) dX10_areRooms_32 ?_
          obtain ⟨rfl, rfl⟩ := g_some h
          exact z_zreturn cx ce rfl (by decide +kernel) ⟨rfl, rfl⟩ dX10_areRooms_33
def f_X10_areRooms (n : Nat) (a0 : Nat) (S : z_Stt) : Option (Bool × z_Stt) :=
  f_X10_areRooms_2 n n a0 0 S
set_option maxHeartbeats 4000000 in
set_option maxRecDepth 100000 in
theorem t_X10_areRooms {g : z_G} {K : z_K} (n : Nat) {v : Bool} {S' : z_Stt} (cx : z_C g M_X10_areRooms 1 K) (ce : z_E' g M_X10_areRooms (z_P g (some (.int (bI v))) S') K) (a0 : Nat) (S : z_Stt) (wa0 : wp8 a0) (h : f_X10_areRooms n a0 S = some (v, S')) : z_At g M_X10_areRooms K 0 [some (.ref (z_ad g a0)), none] [] (hp g S) := by
  unfold f_X10_areRooms at h
  refine z_iconst (v := 0) cx (by decide +kernel) dX10_areRooms_0 ?_
  refine z_istore_n (L' := [some (.ref (z_ad g a0)), some (.int 0)]) cx rfl (by decide) rfl dX10_areRooms_1 ?_
  exact q_weak (z_wk_s (z_wk_s (z_wk_0))) (t_X10_areRooms_2 n cx ce n a0 0 S wa0 h)
theorem c_X10_areRooms {g : z_G} {n : Nat} (a0 : Nat) (S : z_Stt) {v : Bool} {S' : z_Stt} (wa0 : wp8 a0) (h : f_X10_areRooms n a0 S = some (v, S')) : z_Ct g M_X10_areRooms 1 [.ref (z_ad g a0)] (hp g S) (z_P g (some (.int (bI v))) S') :=
  z_Ct.of (by decide +kernel) rfl (Nat.le_of_ble_eq_true rfl) (fun K cx ce => q_weak (L' := [some (.ref (z_ad g a0)), none]) (z_wk_s (z_wk_e (z_wk_0))) (t_X10_areRooms n cx ce a0 S wa0 h))
abbrev M_X10_lengthOf : z_M := (RX10, yX10_lengthOf, cX10_lengthOf, 4, some .int)
theorem mo_X10_lengthOf : z_mo M_X10_lengthOf 1 := ⟨tb_794, tb_2, rfl, ⟨by decide +kernel, by decide +kernel⟩, by decide +kernel, by decide⟩
theorem mv_X10_lengthOf : z_mv M_X10_lengthOf := ⟨tb_792, tb_793⟩
def f_X10_lengthOf_4 (n : Nat) : Nat → Nat → Int32 → Int32 → z_Stt → Option (Int32 × z_Stt)
  | 0, _, _, _, _ => none
  | m + 1, x1, x2, x3, S =>
    if S.1 (100 * x1 + 3) ≤ x3 then
      some (x2, S)
    else
      g_bd (f_X8_at x1 (x3 - 1) S) fun v2 S3 =>
      g_bd (f_X8_at x1 x3 S3) fun v5 S6 =>
      g_bd (f_X9_yards (Int64.toInt32 v2) (Int64.toInt32 v5) S6) fun v8 S9 =>
      f_X10_lengthOf_4 n m x1 (x2 + v8) (x3 + 1) S9
set_option maxHeartbeats 4000000 in
set_option maxRecDepth 100000 in
theorem t_X10_lengthOf_4 {g : z_G} {K : z_K} (n : Nat) {v : Int32} {S' : z_Stt} (cx : z_C g M_X10_lengthOf 3 K) (ce : z_E' g M_X10_lengthOf (z_P g (some (.int v)) S') K) : ∀ (m : Nat) (x1 : Nat) (x2 : Int32) (x3 : Int32) (S : z_Stt) (wx1 : wp8 x1) (h : f_X10_lengthOf_4 n m x1 x2 x3 S = some (v, S')), z_At g M_X10_lengthOf K 4 [some (.ref (z_ad g 0)), some (.ref (z_ad g x1)), some (.int x2), some (.int x3)] [] (hp g S) := by
  intro m
  induction m with
  | zero => intro x1 x2 x3 S wx1 h; simp [f_X10_lengthOf_4] at h
  | succ m ih =>
    intro x1 x2 x3 S wx1 h
    rw [f_X10_lengthOf_4] at h
    refine z_iload_n cx rfl rfl dX10_lengthOf_4 ?_
    refine z_aload_n cx rfl rfl dX10_lengthOf_5 ?_
    refine q_getI (k := x1) (n := 100 * x1 + 3) cx z_cl8 (j := 3) (by decide) tb_210 rfl wx1.1 wx1.2.1 rfl rfl dX10_lengthOf_6 ?_
    refine z_icmp_ge (tgt := 42) cx (by decide) dX10_lengthOf_9 (fun c1 => ?_) (fun c1 => ?_)
    · have h := g_t c1 h
      refine z_iload_n cx rfl rfl dX10_lengthOf_42 ?_
      obtain ⟨rfl, rfl⟩ := g_some h
      exact z_ireturn cx ce rfl ⟨rfl, rfl⟩ dX10_lengthOf_43
    · have h := g_f c1 h
      refine z_iload_n cx rfl rfl dX10_lengthOf_12 ?_
      refine z_aload_n cx rfl rfl dX10_lengthOf_13 ?_
      refine q_getF (k := 0) (n := 1) (r := 1) cx z_cl10 (j := 0) (by decide) tb_16 rfl (by decide) rfl rfl rfl dX10_lengthOf_14 ?_
      refine z_aload_n cx rfl rfl dX10_lengthOf_17 ?_
      refine z_iload_n cx rfl rfl dX10_lengthOf_18 ?_
      refine z_iconst (v := 1) cx (by decide +kernel) dX10_lengthOf_19 ?_
      refine z_isub cx dX10_lengthOf_20 ?_
      obtain ⟨v2, S3, e4, h⟩ := g_bd_ex h
      refine q_cvl (As := [.int (x3 - 1)]) cx mo_X8_at mv_X8_at z_cl8 rfl tb_211 (by decide) rfl wx1.1 wx1.2.1 rfl (Nat.le_of_ble_eq_true rfl) dX10_lengthOf_21 (c_X8_at x1 (x3 - 1) _ wx1 e4) ?_
      refine z_l2i cx dX10_lengthOf_24 ?_
      refine z_aload_n cx rfl rfl dX10_lengthOf_25 ?_
      refine z_iload_n cx rfl rfl dX10_lengthOf_26 ?_
      obtain ⟨v5, S6, e7, h⟩ := g_bd_ex h
      refine q_cvl (As := [.int x3]) cx mo_X8_at mv_X8_at z_cl8 rfl tb_211 (by decide) rfl wx1.1 wx1.2.1 rfl (Nat.le_of_ble_eq_true rfl) dX10_lengthOf_27 (c_X8_at x1 x3 _ wx1 e7) ?_
      refine z_l2i cx dX10_lengthOf_30 ?_
      obtain ⟨v8, S9, e10, h⟩ := g_bd_ex h
      refine q_cvi (As := [.int (Int64.toInt32 v2), .int (Int64.toInt32 v5)]) cx mo_X9_yards mv_X9_yards z_cl9 rfl tb_795 (by decide) rfl (by decide) rfl rfl (Nat.le_of_ble_eq_true rfl) dX10_lengthOf_31 (c_X9_yards (Int64.toInt32 v2) (Int64.toInt32 v5) _ e10) ?_
      refine z_iadd cx dX10_lengthOf_34 ?_
      refine z_istore_n (L' := [some (.ref (z_ad g 0)), some (.ref (z_ad g x1)), some (.int (x2 + v8)), some (.int x3)]) cx rfl (by decide) rfl dX10_lengthOf_35 ?_
      refine z_iinc (c := 1) (L' := [some (.ref (z_ad g 0)), some (.ref (z_ad g x1)), some (.int (x2 + v8)), some (.int (x3 + 1))]) cx rfl (by decide +kernel) (by decide) rfl dX10_lengthOf_36 ?_
      refine z_goto (tgt := 4) cx (by decide) dX10_lengthOf_39 ?_
      exact q_weak (z_wk_s (z_wk_s (z_wk_s (z_wk_s (z_wk_0))))) (ih x1 (x2 + v8) (x3 + 1) S9 wx1 h)
def f_X10_lengthOf (n : Nat) (a0 : Nat) (S : z_Stt) : Option (Int32 × z_Stt) :=
  f_X10_lengthOf_4 n n a0 0 1 S
set_option maxHeartbeats 4000000 in
set_option maxRecDepth 100000 in
theorem t_X10_lengthOf {g : z_G} {K : z_K} (n : Nat) {v : Int32} {S' : z_Stt} (cx : z_C g M_X10_lengthOf 3 K) (ce : z_E' g M_X10_lengthOf (z_P g (some (.int v)) S') K) (a0 : Nat) (S : z_Stt) (wa0 : wp8 a0) (h : f_X10_lengthOf n a0 S = some (v, S')) : z_At g M_X10_lengthOf K 0 [some (.ref (z_ad g 0)), some (.ref (z_ad g a0)), none, none] [] (hp g S) := by
  unfold f_X10_lengthOf at h
  refine z_iconst (v := 0) cx (by decide +kernel) dX10_lengthOf_0 ?_
  refine z_istore_n (L' := [some (.ref (z_ad g 0)), some (.ref (z_ad g a0)), some (.int 0), none]) cx rfl (by decide) rfl dX10_lengthOf_1 ?_
  refine z_iconst (v := 1) cx (by decide +kernel) dX10_lengthOf_2 ?_
  refine z_istore_n (L' := [some (.ref (z_ad g 0)), some (.ref (z_ad g a0)), some (.int 0), some (.int 1)]) cx rfl (by decide) rfl dX10_lengthOf_3 ?_
  exact q_weak (z_wk_s (z_wk_s (z_wk_s (z_wk_s (z_wk_0))))) (t_X10_lengthOf_4 n cx ce n a0 0 1 S wa0 h)
theorem c_X10_lengthOf {g : z_G} {n : Nat} (a0 : Nat) (S : z_Stt) {v : Int32} {S' : z_Stt} (wa0 : wp8 a0) (h : f_X10_lengthOf n a0 S = some (v, S')) : z_Ct g M_X10_lengthOf 3 [.ref (z_ad g 0), .ref (z_ad g a0)] (hp g S) (z_P g (some (.int v)) S') :=
  z_Ct.of (by decide +kernel) rfl (Nat.le_of_ble_eq_true rfl) (fun K cx ce => q_weak (L' := [some (.ref (z_ad g 0)), some (.ref (z_ad g a0)), none, none]) (z_wk_s (z_wk_s (z_wk_e (z_wk_e (z_wk_0))))) (t_X10_lengthOf n cx ce a0 S wa0 h))
abbrev M_X10_roomsOf : z_M := (RX10, yX10_roomsOf, cX10_roomsOf, 3, some .int)
theorem mo_X10_roomsOf : z_mo M_X10_roomsOf 1 := ⟨tb_798, tb_2, rfl, ⟨by decide +kernel, by decide +kernel⟩, by decide +kernel, by decide⟩
theorem ms_X10_roomsOf : z_ms M_X10_roomsOf := tb_797
def f_X10_roomsOf_4 (n : Nat) : Nat → Nat → Int32 → Int32 → z_Stt → Option (Int32 × z_Stt)
  | 0, _, _, _, _ => none
  | m + 1, x0, x1, x2, S =>
    if S.1 (100 * x0 + 3) ≤ x2 then
      some (x1, S)
    else
      g_bd (f_X8_at x0 x2 S) fun v2 S3 =>
      f_X10_roomsOf_4 n m x0 (x1 ||| (1 <<< ((Int64.toInt32 v2) &&& 31))) (x2 + 1) S3
set_option maxHeartbeats 4000000 in
set_option maxRecDepth 100000 in
theorem t_X10_roomsOf_4 {g : z_G} {K : z_K} (n : Nat) {v : Int32} {S' : z_Stt} (cx : z_C g M_X10_roomsOf 1 K) (ce : z_E' g M_X10_roomsOf (z_P g (some (.int v)) S') K) : ∀ (m : Nat) (x0 : Nat) (x1 : Int32) (x2 : Int32) (S : z_Stt) (wx0 : wp8 x0) (h : f_X10_roomsOf_4 n m x0 x1 x2 S = some (v, S')), z_At g M_X10_roomsOf K 4 [some (.ref (z_ad g x0)), some (.int x1), some (.int x2)] [] (hp g S) := by
  intro m
  induction m with
  | zero => intro x0 x1 x2 S wx0 h; simp [f_X10_roomsOf_4] at h
  | succ m ih =>
    intro x0 x1 x2 S wx0 h
    rw [f_X10_roomsOf_4] at h
    refine z_iload_n cx rfl rfl dX10_roomsOf_4 ?_
    refine z_aload_n cx rfl rfl dX10_roomsOf_5 ?_
    refine q_getI (k := x0) (n := 100 * x0 + 3) cx z_cl8 (j := 3) (by decide) tb_210 rfl wx0.1 wx0.2.1 rfl rfl dX10_roomsOf_6 ?_
    refine z_icmp_ge (tgt := 29) cx (by decide) dX10_roomsOf_9 (fun c1 => ?_) (fun c1 => ?_)
    · have h := g_t c1 h
      refine z_iload_n cx rfl rfl dX10_roomsOf_29 ?_
      obtain ⟨rfl, rfl⟩ := g_some h
      exact z_ireturn cx ce rfl ⟨rfl, rfl⟩ dX10_roomsOf_30
    · have h := g_f c1 h
      refine z_iload_n cx rfl rfl dX10_roomsOf_12 ?_
      refine z_iconst (v := 1) cx (by decide +kernel) dX10_roomsOf_13 ?_
      refine z_aload_n cx rfl rfl dX10_roomsOf_14 ?_
      refine z_iload_n cx rfl rfl dX10_roomsOf_15 ?_
      obtain ⟨v2, S3, e4, h⟩ := g_bd_ex h
      refine q_cvl (As := [.int x2]) cx mo_X8_at mv_X8_at z_cl8 rfl tb_211 (by decide) rfl wx0.1 wx0.2.1 rfl (Nat.le_of_ble_eq_true rfl) dX10_roomsOf_16 (c_X8_at x0 x2 _ wx0 e4) ?_
      refine z_l2i cx dX10_roomsOf_19 ?_
      refine z_ishl cx dX10_roomsOf_20 ?_
      refine z_ior cx dX10_roomsOf_21 ?_
      refine z_istore_n (L' := [some (.ref (z_ad g x0)), some (.int (x1 ||| (1 <<< ((Int64.toInt32 v2) &&& 31)))), some (.int x2)]) cx rfl (by decide) rfl dX10_roomsOf_22 ?_
      refine z_iinc (c := 1) (L' := [some (.ref (z_ad g x0)), some (.int (x1 ||| (1 <<< ((Int64.toInt32 v2) &&& 31)))), some (.int (x2 + 1))]) cx rfl (by decide +kernel) (by decide) rfl dX10_roomsOf_23 ?_
      refine z_goto (tgt := 4) cx (by decide) dX10_roomsOf_26 ?_
      exact q_weak (z_wk_s (z_wk_s (z_wk_s (z_wk_0)))) (ih x0 (x1 ||| (1 <<< ((Int64.toInt32 v2) &&& 31))) (x2 + 1) S3 wx0 h)
def f_X10_roomsOf (n : Nat) (a0 : Nat) (S : z_Stt) : Option (Int32 × z_Stt) :=
  f_X10_roomsOf_4 n n a0 0 0 S
set_option maxHeartbeats 4000000 in
set_option maxRecDepth 100000 in
theorem t_X10_roomsOf {g : z_G} {K : z_K} (n : Nat) {v : Int32} {S' : z_Stt} (cx : z_C g M_X10_roomsOf 1 K) (ce : z_E' g M_X10_roomsOf (z_P g (some (.int v)) S') K) (a0 : Nat) (S : z_Stt) (wa0 : wp8 a0) (h : f_X10_roomsOf n a0 S = some (v, S')) : z_At g M_X10_roomsOf K 0 [some (.ref (z_ad g a0)), none, none] [] (hp g S) := by
  unfold f_X10_roomsOf at h
  refine z_iconst (v := 0) cx (by decide +kernel) dX10_roomsOf_0 ?_
  refine z_istore_n (L' := [some (.ref (z_ad g a0)), some (.int 0), none]) cx rfl (by decide) rfl dX10_roomsOf_1 ?_
  refine z_iconst (v := 0) cx (by decide +kernel) dX10_roomsOf_2 ?_
  refine z_istore_n (L' := [some (.ref (z_ad g a0)), some (.int 0), some (.int 0)]) cx rfl (by decide) rfl dX10_roomsOf_3 ?_
  exact q_weak (z_wk_s (z_wk_s (z_wk_s (z_wk_0)))) (t_X10_roomsOf_4 n cx ce n a0 0 0 S wa0 h)
theorem c_X10_roomsOf {g : z_G} {n : Nat} (a0 : Nat) (S : z_Stt) {v : Int32} {S' : z_Stt} (wa0 : wp8 a0) (h : f_X10_roomsOf n a0 S = some (v, S')) : z_Ct g M_X10_roomsOf 1 [.ref (z_ad g a0)] (hp g S) (z_P g (some (.int v)) S') :=
  z_Ct.of (by decide +kernel) rfl (Nat.le_of_ble_eq_true rfl) (fun K cx ce => q_weak (L' := [some (.ref (z_ad g a0)), none, none]) (z_wk_s (z_wk_e (z_wk_e (z_wk_0)))) (t_X10_roomsOf n cx ce a0 S wa0 h))
abbrev M_X10_length : z_M := (RX10, yX10_length, cX10_length, 6, some .int)
theorem mo_X10_length : z_mo M_X10_length 2 := ⟨tb_781, tb_2, rfl, ⟨by decide +kernel, by decide +kernel⟩, by decide +kernel, by decide⟩
theorem mv_X10_length : z_mv M_X10_length := ⟨tb_779, tb_780⟩
def f_X10_length (n : Nat) (a0 : Int32) (a1 : Int32) (S : z_Stt) : Option (Int32 × z_Stt) :=
  g_bd (f_X10_isShelf a0 S) fun v1 S2 =>
  if v1 = true then
    g_bd (f_X10_within a1 1 S2) fun v5 S6 =>
    if v5 = true then
      if ¬ (a0 < 0 ∨ 6 ≤ a0.toNatClampNeg) then
        g_bd (f_X8_refusal (36 + 2 * a0.toNatClampNeg) 0 S6) fun v10 S11 =>
        if v10 = 0 then
          if S11.1 (100 * (36 + 2 * a0.toNatClampNeg) + 3) = 0 then
            some ((-5), S11)
          else
            g_bd (f_X10_areRooms n (36 + 2 * a0.toNatClampNeg) S11) fun v15 S16 =>
            if v15 = true then
              g_bd (f_X10_lengthOf n (36 + 2 * a0.toNatClampNeg) S16) fun v19 S20 =>
              if a1 = 0 then
                some (v19, S20)
              else
                g_bd (f_X8_at (36 + 2 * a0.toNatClampNeg) 0 S20) fun v23 S24 =>
                g_bd (f_X8_at (36 + 2 * a0.toNatClampNeg) ((S24.1 (100 * (36 + 2 * a0.toNatClampNeg) + 3)) - 1) S24) fun v26 S27 =>
                g_bd (f_X10_roomsOf n (36 + 2 * a0.toNatClampNeg) S27) fun v29 S30 =>
                g_bd (f_X7_find n (Int64.toInt32 v23) (Int64.toInt32 v26) v29 S30) fun v32 S33 =>
                some (v19 - (S33.1 2803), S33)
            else
              some ((-5), S16)
        else
          some (v10, S11)
      else none
    else
      some ((-1), S6)
  else
    some ((-1), S2)
set_option maxHeartbeats 4000000 in
set_option maxRecDepth 100000 in
theorem t_X10_length {g : z_G} {K : z_K} (n : Nat) {v : Int32} {S' : z_Stt} (cx : z_C g M_X10_length 5 K) (ce : z_E' g M_X10_length (z_P g (some (.int v)) S') K) (a0 : Int32) (a1 : Int32) (S : z_Stt) (h : f_X10_length n a0 a1 S = some (v, S')) : z_At g M_X10_length K 0 [some (.ref (z_ad g 0)), some (.int a0), some (.int a1), none, none, none] [] (hp g S) := by
  unfold f_X10_length at h
  refine z_iload_n cx rfl rfl dX10_length_0 ?_
  obtain ⟨v1, S2, e3, h⟩ := g_bd_ex h
  refine q_csi (As := [.int a0]) cx mo_X10_isShelf ms_X10_isShelf tb_198 (by decide) rfl rfl (Nat.le_of_ble_eq_true rfl) dX10_length_1 (c_X10_isShelf a0 _ e3) ?_
  refine q_ifb_eq (tgt := 15) cx (by decide) dX10_length_4 (fun c4 => ?_) (fun c4 => ?_)
  · have h := g_f (Bool.eq_false_iff.mp c4) h
    refine z_iconst (v := (-1)) cx (by decide +kernel) dX10_length_15 ?_
    obtain ⟨rfl, rfl⟩ := g_some h
    exact z_ireturn cx ce rfl ⟨rfl, rfl⟩ dX10_length_16
  · have h := g_t c4 h
    refine z_iload_n cx rfl rfl dX10_length_7 ?_
    refine z_iconst (v := 1) cx (by decide +kernel) dX10_length_8 ?_
    obtain ⟨v5, S6, e7, h⟩ := g_bd_ex h
    refine q_csi (As := [.int a1, .int 1]) cx mo_X10_within ms_X10_within tb_171 (by decide) rfl rfl (Nat.le_of_ble_eq_true rfl) dX10_length_9 (c_X10_within a1 1 _ e7) ?_
    refine q_ifb_ne (tgt := 17) cx (by decide) dX10_length_12 (fun c8 => ?_) (fun c8 => ?_)
    · have h := g_t c8 h
      refine z_aload_n cx rfl rfl dX10_length_17 ?_
      refine q_getF (k := 0) (n := 35) (r := 35) cx z_cl10 (j := 11) (by decide) tb_52 rfl (by decide) rfl rfl rfl dX10_length_18 ?_
      refine z_iload_n cx rfl rfl dX10_length_21 ?_
      obtain ⟨c9, h⟩ := g_if h
      refine q_aald_S cx (by decide) rfl c9 dX10_length_22 ?_
      refine z_astore_n (L' := [some (.ref (z_ad g 0)), some (.int a0), some (.int a1), some (.ref (z_ad g (36 + 2 * a0.toNatClampNeg))), none, none]) cx rfl (by decide) rfl dX10_length_23 ?_
      refine z_aload_n cx rfl rfl dX10_length_24 ?_
      refine z_iconst (v := 0) cx (by decide +kernel) dX10_length_25 ?_
      obtain ⟨v10, S11, e12, h⟩ := g_bd_ex h
      refine q_cvi (As := [.int 0]) cx mo_X8_refusal mv_X8_refusal z_cl8 rfl tb_782 (by decide) rfl (wp8_of c9).1 (wp8_of c9).2.1 rfl (Nat.le_of_ble_eq_true rfl) dX10_length_26 (c_X8_refusal (36 + 2 * a0.toNatClampNeg) 0 _ (wp8_of c9) e12) ?_
      refine z_istore (L' := [some (.ref (z_ad g 0)), some (.int a0), some (.int a1), some (.ref (z_ad g (36 + 2 * a0.toNatClampNeg))), some (.int v10), none]) cx (by decide) rfl dX10_length_29 ?_
      refine z_iload cx rfl dX10_length_31 ?_
      refine z_if_eq (tgt := 39) cx (by decide) dX10_length_33 (fun c13 => ?_) (fun c13 => ?_)
      · have h := g_t c13 h
        refine z_aload_n cx rfl rfl dX10_length_39 ?_
        refine q_getI (k := 36 + 2 * a0.toNatClampNeg) (n := 100 * (36 + 2 * a0.toNatClampNeg) + 3) cx z_cl8 (j := 3) (by decide) tb_210 rfl (wp8_of c9).1 (wp8_of c9).2.1 rfl rfl dX10_length_40 ?_
        refine z_if_eq (tgt := 53) cx (by decide) dX10_length_43 (fun c14 => ?_) (fun c14 => ?_)
        · have h := g_t c14 h
          refine z_bipush (v := (-5)) cx (by decide +kernel) dX10_length_53 ?_
          obtain ⟨rfl, rfl⟩ := g_some h
          exact z_ireturn cx ce rfl ⟨rfl, rfl⟩ dX10_length_55
        · have h := g_f c14 h
          refine z_aload_n cx rfl rfl dX10_length_46 ?_
          obtain ⟨v15, S16, e17, h⟩ := g_bd_ex h
          refine q_csi (As := [.ref (z_ad g (36 + 2 * a0.toNatClampNeg))]) cx mo_X10_areRooms ms_X10_areRooms tb_787 (by decide) rfl rfl (Nat.le_of_ble_eq_true rfl) dX10_length_47 (c_X10_areRooms (36 + 2 * a0.toNatClampNeg) _ (wp8_of c9) e17) ?_
          refine q_ifb_ne (tgt := 56) cx (by decide) dX10_length_50 (fun c18 => ?_) (fun c18 => ?_)
          · have h := g_t c18 h
            refine z_aload_n cx rfl rfl dX10_length_56 ?_
            refine z_aload_n cx rfl rfl dX10_length_57 ?_
            obtain ⟨v19, S20, e21, h⟩ := g_bd_ex h
            refine q_cvi (As := [.ref (z_ad g (36 + 2 * a0.toNatClampNeg))]) cx mo_X10_lengthOf mv_X10_lengthOf z_cl10 rfl tb_791 (by decide) rfl (by decide) rfl rfl (Nat.le_of_ble_eq_true rfl) dX10_length_58 (c_X10_lengthOf (36 + 2 * a0.toNatClampNeg) _ (wp8_of c9) e21) ?_
            refine z_istore (L' := [some (.ref (z_ad g 0)), some (.int a0), some (.int a1), some (.ref (z_ad g (36 + 2 * a0.toNatClampNeg))), some (.int v10), some (.int v19)]) cx (by decide) rfl dX10_length_61 ?_
            refine z_iload_n cx rfl rfl dX10_length_63 ?_
            refine z_if_ne (tgt := 70) cx (by decide) dX10_length_64 (fun c22 => ?_) (fun c22 => ?_)
            · have h := g_f c22 h
              refine z_aload_n cx rfl rfl dX10_length_70 ?_
              refine q_getF (k := 0) (n := 28) (r := 28) cx z_cl10 (j := 8) (by decide) tb_42 rfl (by decide) rfl rfl rfl dX10_length_71 ?_
              refine z_aload_n cx rfl rfl dX10_length_74 ?_
              refine q_getF (k := 0) (n := 1) (r := 1) cx z_cl10 (j := 0) (by decide) tb_16 rfl (by decide) rfl rfl rfl dX10_length_75 ?_
              refine z_aload_n cx rfl rfl dX10_length_78 ?_
              refine z_iconst (v := 0) cx (by decide +kernel) dX10_length_79 ?_
              obtain ⟨v23, S24, e25, h⟩ := g_bd_ex h
              refine q_cvl (As := [.int 0]) cx mo_X8_at mv_X8_at z_cl8 rfl tb_211 (by decide) rfl (wp8_of c9).1 (wp8_of c9).2.1 rfl (Nat.le_of_ble_eq_true rfl) dX10_length_80 (c_X8_at (36 + 2 * a0.toNatClampNeg) 0 _ (wp8_of c9) e25) ?_
              refine z_l2i cx dX10_length_83 ?_
              refine z_aload_n cx rfl rfl dX10_length_84 ?_
              refine z_aload_n cx rfl rfl dX10_length_85 ?_
              refine q_getI (k := 36 + 2 * a0.toNatClampNeg) (n := 100 * (36 + 2 * a0.toNatClampNeg) + 3) cx z_cl8 (j := 3) (by decide) tb_210 rfl (wp8_of c9).1 (wp8_of c9).2.1 rfl rfl dX10_length_86 ?_
              refine z_iconst (v := 1) cx (by decide +kernel) dX10_length_89 ?_
              refine z_isub cx dX10_length_90 ?_
              obtain ⟨v26, S27, e28, h⟩ := g_bd_ex h
              refine q_cvl (As := [.int ((S24.1 (100 * (36 + 2 * a0.toNatClampNeg) + 3)) - 1)]) cx mo_X8_at mv_X8_at z_cl8 rfl tb_211 (by decide) rfl (wp8_of c9).1 (wp8_of c9).2.1 rfl (Nat.le_of_ble_eq_true rfl) dX10_length_91 (c_X8_at (36 + 2 * a0.toNatClampNeg) ((S24.1 (100 * (36 + 2 * a0.toNatClampNeg) + 3)) - 1) _ (wp8_of c9) e28) ?_
              refine z_l2i cx dX10_length_94 ?_
              refine z_aload_n cx rfl rfl dX10_length_95 ?_
              obtain ⟨v29, S30, e31, h⟩ := g_bd_ex h
              refine q_csi (As := [.ref (z_ad g (36 + 2 * a0.toNatClampNeg))]) cx mo_X10_roomsOf ms_X10_roomsOf tb_796 (by decide) rfl rfl (Nat.le_of_ble_eq_true rfl) dX10_length_96 (c_X10_roomsOf (36 + 2 * a0.toNatClampNeg) _ (wp8_of c9) e31) ?_
              obtain ⟨v32, S33, e34, h⟩ := g_bd_ex h
              refine q_cvv (As := [.ref (z_ad g 1), .int (Int64.toInt32 v23), .int (Int64.toInt32 v26), .int v29]) cx mo_X7_find mv_X7_find z_cl7 rfl tb_732 (by decide) rfl (by decide) rfl rfl (Nat.le_of_ble_eq_true rfl) dX10_length_99 (c_X7_find (Int64.toInt32 v23) (Int64.toInt32 v26) v29 _ e34) ?_
              refine z_iload cx rfl dX10_length_102 ?_
              refine z_aload_n cx rfl rfl dX10_length_104 ?_
              refine q_getF (k := 0) (n := 28) (r := 28) cx z_cl10 (j := 8) (by decide) tb_42 rfl (by decide) rfl rfl rfl dX10_length_105 ?_
              refine q_getI (k := 28) (n := 2803) cx z_cl7 (j := 3) (by decide) tb_729 rfl (by decide) rfl rfl rfl dX10_length_108 ?_
              refine z_isub cx dX10_length_111 ?_
              obtain ⟨rfl, rfl⟩ := g_some h
              exact z_ireturn cx ce rfl ⟨rfl, rfl⟩ dX10_length_112
            · have h := g_t c22 h
              refine z_iload cx rfl dX10_length_67 ?_
              obtain ⟨rfl, rfl⟩ := g_some h
              exact z_ireturn cx ce rfl ⟨rfl, rfl⟩ dX10_length_69
          · have h := g_f (Bool.eq_false_iff.mp c18) h
            refine z_bipush (v := (-5)) cx (by decide +kernel) dX10_length_53 ?_
            obtain ⟨rfl, rfl⟩ := g_some h
            exact z_ireturn cx ce rfl ⟨rfl, rfl⟩ dX10_length_55
      · have h := g_f c13 h
        refine z_iload cx rfl dX10_length_36 ?_
        obtain ⟨rfl, rfl⟩ := g_some h
        exact z_ireturn cx ce rfl ⟨rfl, rfl⟩ dX10_length_38
    · have h := g_f (Bool.eq_false_iff.mp c8) h
      refine z_iconst (v := (-1)) cx (by decide +kernel) dX10_length_15 ?_
      obtain ⟨rfl, rfl⟩ := g_some h
      exact z_ireturn cx ce rfl ⟨rfl, rfl⟩ dX10_length_16
theorem c_X10_length {g : z_G} {n : Nat} (a0 : Int32) (a1 : Int32) (S : z_Stt) {v : Int32} {S' : z_Stt} (h : f_X10_length n a0 a1 S = some (v, S')) : z_Ct g M_X10_length 5 [.ref (z_ad g 0), .int a0, .int a1] (hp g S) (z_P g (some (.int v)) S') :=
  z_Ct.of (by decide +kernel) rfl (Nat.le_of_ble_eq_true rfl) (fun K cx ce => q_weak (L' := [some (.ref (z_ad g 0)), some (.int a0), some (.int a1), none, none, none]) (z_wk_s (z_wk_s (z_wk_s (z_wk_e (z_wk_e (z_wk_e (z_wk_0))))))) (t_X10_length n cx ce a0 a1 S h))
abbrev M_X10_list : z_M := (RX10, yX10_list, cX10_list, 7, some .long)
theorem mo_X10_list : z_mo M_X10_list 2 := ⟨tb_810, tb_2, rfl, ⟨by decide +kernel, by decide +kernel⟩, by decide +kernel, by decide⟩
theorem mv_X10_list : z_mv M_X10_list := ⟨tb_808, tb_809⟩
def f_X10_list (n : Nat) (a0 : Int32) (a1 : Int32) (S : z_Stt) : Option (Int64 × z_Stt) :=
  if a0 < 0 then
    some ((-9223372036854775808), S)
  else
    g_bd (f_X10_isThing (a0 / 100) S) fun v2 S3 =>
    if v2 = true then
      g_bd (f_X10_within (a0 % 100) 12 S3) fun v6 S7 =>
      if v6 = true then
        g_bd (f_X10_within a1 1 S7) fun v10 S11 =>
        if v10 = true then
          g_bd (f_X9_ofThing 0 (a0 / 100) S11) fun v14 S15 =>
          g_bd (f_X4_become n 17 ((Int32.toInt64 v14) * (Int32.toInt64 (a0 % 100))) (((Int32.toInt64 v14) * (Int32.toInt64 (a0 % 100))) + ((144 - (Int32.toInt64 v14)) * 12)) S15) fun v17 S18 =>
          if v17 = true then
            g_bd (f_X4_part 17 a1 S18) fun v21 S22 =>
            some (v21, S22)
          else
            some ((-2), S18)
        else
          some ((-9223372036854775808), S11)
      else
        some ((-9223372036854775808), S7)
    else
      some ((-9223372036854775808), S3)
set_option maxHeartbeats 4000000 in
set_option maxRecDepth 100000 in
theorem t_X10_list {g : z_G} {K : z_K} (n : Nat) {v : Int64} {S' : z_Stt} (cx : z_C g M_X10_list 2 K) (ce : z_E' g M_X10_list (z_P g (some (.long v)) S') K) (a0 : Int32) (a1 : Int32) (S : z_Stt) (h : f_X10_list n a0 a1 S = some (v, S')) : z_At g M_X10_list K 0 [some (.ref (z_ad g 0)), some (.int a0), some (.int a1), none, none, none, none] [] (hp g S) := by
  unfold f_X10_list at h
  refine z_iload_n cx rfl rfl dX10_list_0 ?_
  refine z_if_lt (tgt := 35) cx (by decide) dX10_list_1 (fun c1 => ?_) (fun c1 => ?_)
  · have h := g_t c1 h
    refine z_ldc2 cx tb_442 dX10_list_35 ?_
    obtain ⟨rfl, rfl⟩ := g_some h
    exact z_lreturn cx ce rfl ⟨rfl, rfl⟩ dX10_list_38
  · have h := g_f c1 h
    refine z_aload_n cx rfl rfl dX10_list_4 ?_
    refine z_iload_n cx rfl rfl dX10_list_5 ?_
    refine z_bipush (v := 100) cx (by decide +kernel) dX10_list_6 ?_
    refine z_idiv cx (by decide +kernel) dX10_list_8 ?_
    obtain ⟨v2, S3, e4, h⟩ := g_bd_ex h
    refine q_cvi (As := [.int (a0 / 100)]) cx mo_X10_isThing mv_X10_isThing z_cl10 rfl tb_303 (by decide) rfl (by decide) rfl rfl (Nat.le_of_ble_eq_true rfl) dX10_list_9 (c_X10_isThing (a0 / 100) _ e4) ?_
    refine q_ifb_eq (tgt := 35) cx (by decide) dX10_list_12 (fun c5 => ?_) (fun c5 => ?_)
    · have h := g_f (Bool.eq_false_iff.mp c5) h
      refine z_ldc2 cx tb_442 dX10_list_35 ?_
      obtain ⟨rfl, rfl⟩ := g_some h
      exact z_lreturn cx ce rfl ⟨rfl, rfl⟩ dX10_list_38
    · have h := g_t c5 h
      refine z_iload_n cx rfl rfl dX10_list_15 ?_
      refine z_bipush (v := 100) cx (by decide +kernel) dX10_list_16 ?_
      refine z_irem cx (by decide +kernel) dX10_list_18 ?_
      refine z_bipush (v := 12) cx (by decide +kernel) dX10_list_19 ?_
      obtain ⟨v6, S7, e8, h⟩ := g_bd_ex h
      refine q_csi (As := [.int (a0 % 100), .int 12]) cx mo_X10_within ms_X10_within tb_171 (by decide) rfl rfl (Nat.le_of_ble_eq_true rfl) dX10_list_21 (c_X10_within (a0 % 100) 12 _ e8) ?_
      refine q_ifb_eq (tgt := 35) cx (by decide) dX10_list_24 (fun c9 => ?_) (fun c9 => ?_)
      · have h := g_f (Bool.eq_false_iff.mp c9) h
        refine z_ldc2 cx tb_442 dX10_list_35 ?_
        obtain ⟨rfl, rfl⟩ := g_some h
        exact z_lreturn cx ce rfl ⟨rfl, rfl⟩ dX10_list_38
      · have h := g_t c9 h
        refine z_iload_n cx rfl rfl dX10_list_27 ?_
        refine z_iconst (v := 1) cx (by decide +kernel) dX10_list_28 ?_
        obtain ⟨v10, S11, e12, h⟩ := g_bd_ex h
        refine q_csi (As := [.int a1, .int 1]) cx mo_X10_within ms_X10_within tb_171 (by decide) rfl rfl (Nat.le_of_ble_eq_true rfl) dX10_list_29 (c_X10_within a1 1 _ e12) ?_
        refine q_ifb_ne (tgt := 39) cx (by decide) dX10_list_32 (fun c13 => ?_) (fun c13 => ?_)
        · have h := g_t c13 h
          refine z_aload_n cx rfl rfl dX10_list_39 ?_
          refine q_getF (k := 0) (n := 1) (r := 1) cx z_cl10 (j := 0) (by decide) tb_16 rfl (by decide) rfl rfl rfl dX10_list_40 ?_
          refine z_iconst (v := 0) cx (by decide +kernel) dX10_list_43 ?_
          refine z_iload_n cx rfl rfl dX10_list_44 ?_
          refine z_bipush (v := 100) cx (by decide +kernel) dX10_list_45 ?_
          refine z_idiv cx (by decide +kernel) dX10_list_47 ?_
          obtain ⟨v14, S15, e16, h⟩ := g_bd_ex h
          refine q_cvi (As := [.int 0, .int (a0 / 100)]) cx mo_X9_ofThing mv_X9_ofThing z_cl9 rfl tb_449 (by decide) rfl (by decide) rfl rfl (Nat.le_of_ble_eq_true rfl) dX10_list_48 (c_X9_ofThing 0 (a0 / 100) _ e16) ?_
          refine z_i2l cx dX10_list_51 ?_
          refine z_lstore_n (L' := [some (.ref (z_ad g 0)), some (.int a0), some (.int a1), some (.long (Int32.toInt64 v14)), none, none, none]) cx rfl (by decide) rfl dX10_list_52 ?_
          refine z_lload_n cx rfl rfl dX10_list_53 ?_
          refine z_iload_n cx rfl rfl dX10_list_54 ?_
          refine z_bipush (v := 100) cx (by decide +kernel) dX10_list_55 ?_
          refine z_irem cx (by decide +kernel) dX10_list_57 ?_
          refine z_i2l cx dX10_list_58 ?_
          refine z_lmul cx dX10_list_59 ?_
          refine z_lstore (L' := [some (.ref (z_ad g 0)), some (.int a0), some (.int a1), some (.long (Int32.toInt64 v14)), none, some (.long ((Int32.toInt64 v14) * (Int32.toInt64 (a0 % 100)))), none]) cx (by decide) rfl dX10_list_60 ?_
          refine z_aload_n cx rfl rfl dX10_list_62 ?_
          refine q_getF (k := 0) (n := 17) (r := 17) cx z_cl10 (j := 6) (by decide) tb_34 rfl (by decide) rfl rfl rfl dX10_list_63 ?_
          refine z_lload cx rfl dX10_list_66 ?_
          refine z_lload cx rfl dX10_list_68 ?_
          refine z_ldc2 cx tb_448 dX10_list_70 ?_
          refine z_lload_n cx rfl rfl dX10_list_73 ?_
          refine z_lsub cx dX10_list_74 ?_
          refine z_ldc2 cx tb_685 dX10_list_75 ?_
          refine z_lmul cx dX10_list_78 ?_
          refine z_ladd cx dX10_list_79 ?_
          obtain ⟨v17, S18, e19, h⟩ := g_bd_ex h
          refine q_cvi (As := [.long ((Int32.toInt64 v14) * (Int32.toInt64 (a0 % 100))), .long (((Int32.toInt64 v14) * (Int32.toInt64 (a0 % 100))) + ((144 - (Int32.toInt64 v14)) * 12))]) cx mo_X4_become mv_X4_become z_cl4 rfl tb_454 (by decide) rfl (by decide) rfl rfl (Nat.le_of_ble_eq_true rfl) dX10_list_80 (c_X4_become 17 ((Int32.toInt64 v14) * (Int32.toInt64 (a0 % 100))) (((Int32.toInt64 v14) * (Int32.toInt64 (a0 % 100))) + ((144 - (Int32.toInt64 v14)) * 12)) _ wp4_17 e19) ?_
          refine q_ifb_eq (tgt := 97) cx (by decide) dX10_list_83 (fun c20 => ?_) (fun c20 => ?_)
          · have h := g_f (Bool.eq_false_iff.mp c20) h
            refine z_ldc2 cx tb_443 dX10_list_97 ?_
            obtain ⟨rfl, rfl⟩ := g_some h
            exact z_lreturn cx ce rfl ⟨rfl, rfl⟩ dX10_list_100
          · have h := g_t c20 h
            refine z_aload_n cx rfl rfl dX10_list_86 ?_
            refine q_getF (k := 0) (n := 17) (r := 17) cx z_cl10 (j := 6) (by decide) tb_34 rfl (by decide) rfl rfl rfl dX10_list_87 ?_
            refine z_iload_n cx rfl rfl dX10_list_90 ?_
            obtain ⟨v21, S22, e23, h⟩ := g_bd_ex h
            refine q_cvl (As := [.int a1]) cx mo_X4_part mv_X4_part z_cl4 rfl tb_476 (by decide) rfl (by decide) rfl rfl (Nat.le_of_ble_eq_true rfl) dX10_list_91 (c_X4_part 17 a1 _ wp4_17 e23) ?_
            refine z_goto (tgt := 100) cx (by decide) dX10_list_94 ?_
            obtain ⟨rfl, rfl⟩ := g_some h
            exact z_lreturn cx ce rfl ⟨rfl, rfl⟩ dX10_list_100
        · have h := g_f (Bool.eq_false_iff.mp c13) h
          refine z_ldc2 cx tb_442 dX10_list_35 ?_
          obtain ⟨rfl, rfl⟩ := g_some h
          exact z_lreturn cx ce rfl ⟨rfl, rfl⟩ dX10_list_38
theorem c_X10_list {g : z_G} {n : Nat} (a0 : Int32) (a1 : Int32) (S : z_Stt) {v : Int64} {S' : z_Stt} (h : f_X10_list n a0 a1 S = some (v, S')) : z_Ct g M_X10_list 2 [.ref (z_ad g 0), .int a0, .int a1] (hp g S) (z_P g (some (.long v)) S') :=
  z_Ct.of (by decide +kernel) rfl (Nat.le_of_ble_eq_true rfl) (fun K cx ce => q_weak (L' := [some (.ref (z_ad g 0)), some (.int a0), some (.int a1), none, none, none, none]) (z_wk_s (z_wk_s (z_wk_s (z_wk_e (z_wk_e (z_wk_e (z_wk_e (z_wk_0)))))))) (t_X10_list n cx ce a0 a1 S h))
abbrev M_X10_ever : z_M := (RX10, yX10_ever, cX10_ever, 11, some .long)
theorem mo_X10_ever : z_mo M_X10_ever 3 := ⟨tb_818, tb_2, rfl, ⟨by decide +kernel, by decide +kernel⟩, by decide +kernel, by decide⟩
theorem mv_X10_ever : z_mv M_X10_ever := ⟨tb_816, tb_817⟩
def f_X10_ever_54 (n : Nat) : Nat → Int32 → Int32 → Int64 → Int64 → Int64 → Int32 → z_Stt → Option (Int64 × z_Stt)
  | 0, _, _, _, _, _, _, _ => none
  | m + 1, x2, x3, x4, x6, x8, x10, S =>
    if x2 ≤ x10 then
      g_bd (f_X4_become n 17 (x6 - x8) x6 S) fun v2 S3 =>
      g_bd (f_X4_part 17 x3 S3) fun v5 S6 =>
      some (v5, S6)
    else
      f_X10_ever_54 n m x2 x3 x4 (x6 * 144) (x8 * x4) (x10 + 1) S
set_option maxHeartbeats 4000000 in
set_option maxRecDepth 100000 in
theorem t_X10_ever_54 {g : z_G} {K : z_K} (n : Nat) {v : Int64} {S' : z_Stt} (cx : z_C g M_X10_ever 2 K) (ce : z_E' g M_X10_ever (z_P g (some (.long v)) S') K) : ∀ (m : Nat) (x2 : Int32) (x3 : Int32) (x4 : Int64) (x6 : Int64) (x8 : Int64) (x10 : Int32) (S : z_Stt) (h : f_X10_ever_54 n m x2 x3 x4 x6 x8 x10 S = some (v, S')), z_At g M_X10_ever K 54 [some (.ref (z_ad g 0)), none, some (.int x2), some (.int x3), some (.long x4), none, some (.long x6), none, some (.long x8), none, some (.int x10)] [] (hp g S) := by
  intro m
  induction m with
  | zero => intro x2 x3 x4 x6 x8 x10 S h; simp [f_X10_ever_54] at h
  | succ m ih =>
    intro x2 x3 x4 x6 x8 x10 S h
    rw [f_X10_ever_54] at h
    refine z_iload cx rfl dX10_ever_54 ?_
    refine z_iload_n cx rfl rfl dX10_ever_56 ?_
    refine z_icmp_ge (tgt := 81) cx (by decide) dX10_ever_57 (fun c1 => ?_) (fun c1 => ?_)
    · have h := g_t c1 h
      refine z_aload_n cx rfl rfl dX10_ever_81 ?_
      refine q_getF (k := 0) (n := 17) (r := 17) cx z_cl10 (j := 6) (by decide) tb_34 rfl (by decide) rfl rfl rfl dX10_ever_82 ?_
      refine z_lload cx rfl dX10_ever_85 ?_
      refine z_lload cx rfl dX10_ever_87 ?_
      refine z_lsub cx dX10_ever_89 ?_
      refine z_lload cx rfl dX10_ever_90 ?_
      obtain ⟨v2, S3, e4, h⟩ := g_bd_ex h
      refine q_cvi (As := [.long (x6 - x8), .long x6]) cx mo_X4_become mv_X4_become z_cl4 rfl tb_454 (by decide) rfl (by decide) rfl rfl (Nat.le_of_ble_eq_true rfl) dX10_ever_92 (c_X4_become 17 (x6 - x8) x6 _ wp4_17 e4) ?_
      refine z_pop cx rfl dX10_ever_95 ?_
      refine z_aload_n cx rfl rfl dX10_ever_96 ?_
      refine q_getF (k := 0) (n := 17) (r := 17) cx z_cl10 (j := 6) (by decide) tb_34 rfl (by decide) rfl rfl rfl dX10_ever_97 ?_
      refine z_iload_n cx rfl rfl dX10_ever_100 ?_
      obtain ⟨v5, S6, e7, h⟩ := g_bd_ex h
      refine q_cvl (As := [.int x3]) cx mo_X4_part mv_X4_part z_cl4 rfl tb_476 (by decide) rfl (by decide) rfl rfl (Nat.le_of_ble_eq_true rfl) dX10_ever_101 (c_X4_part 17 x3 _ wp4_17 e7) ?_
      obtain ⟨rfl, rfl⟩ := g_some h
      exact z_lreturn cx ce rfl ⟨rfl, rfl⟩ dX10_ever_104
    · have h := g_f c1 h
      refine z_lload cx rfl dX10_ever_60 ?_
      refine z_ldc2 cx tb_448 dX10_ever_62 ?_
      refine z_lmul cx dX10_ever_65 ?_
      refine z_lstore (L' := [some (.ref (z_ad g 0)), none, some (.int x2), some (.int x3), some (.long x4), none, some (.long (x6 * 144)), none, some (.long x8), none, some (.int x10)]) cx (by decide) rfl dX10_ever_66 ?_
      refine z_lload cx rfl dX10_ever_68 ?_
      refine z_lload cx rfl dX10_ever_70 ?_
      refine z_lmul cx dX10_ever_72 ?_
      refine z_lstore (L' := [some (.ref (z_ad g 0)), none, some (.int x2), some (.int x3), some (.long x4), none, some (.long (x6 * 144)), none, some (.long (x8 * x4)), none, some (.int x10)]) cx (by decide) rfl dX10_ever_73 ?_
      refine z_iinc (c := 1) (L' := [some (.ref (z_ad g 0)), none, some (.int x2), some (.int x3), some (.long x4), none, some (.long (x6 * 144)), none, some (.long (x8 * x4)), none, some (.int (x10 + 1))]) cx rfl (by decide +kernel) (by decide) rfl dX10_ever_75 ?_
      refine z_goto (tgt := 54) cx (by decide) dX10_ever_78 ?_
      exact q_weak (z_wk_s (z_wk_n (z_wk_s (z_wk_s (z_wk_s (z_wk_n (z_wk_s (z_wk_n (z_wk_s (z_wk_n (z_wk_s (z_wk_0)))))))))))) (ih x2 x3 x4 (x6 * 144) (x8 * x4) (x10 + 1) S h)
def f_X10_ever (n : Nat) (a0 : Int32) (a1 : Int32) (a2 : Int32) (S : z_Stt) : Option (Int64 × z_Stt) :=
  g_bd (f_X10_isThing a0 S) fun v1 S2 =>
  if v1 = true then
    g_bd (f_X10_within a1 7 S2) fun v5 S6 =>
    if v5 = true then
      g_bd (f_X10_within a2 1 S6) fun v9 S10 =>
      if v9 = true then
        g_bd (f_X9_ofThing 0 a0 S10) fun v13 S14 =>
        f_X10_ever_54 n n a1 a2 (Int32.toInt64 (144 - v13)) 1 1 0 S14
      else
        some ((-9223372036854775808), S10)
    else
      some ((-9223372036854775808), S6)
  else
    some ((-9223372036854775808), S2)
set_option maxHeartbeats 4000000 in
set_option maxRecDepth 100000 in
theorem t_X10_ever {g : z_G} {K : z_K} (n : Nat) {v : Int64} {S' : z_Stt} (cx : z_C g M_X10_ever 2 K) (ce : z_E' g M_X10_ever (z_P g (some (.long v)) S') K) (a0 : Int32) (a1 : Int32) (a2 : Int32) (S : z_Stt) (h : f_X10_ever n a0 a1 a2 S = some (v, S')) : z_At g M_X10_ever K 0 [some (.ref (z_ad g 0)), some (.int a0), some (.int a1), some (.int a2), none, none, none, none, none, none, none] [] (hp g S) := by
  unfold f_X10_ever at h
  refine z_aload_n cx rfl rfl dX10_ever_0 ?_
  refine z_iload_n cx rfl rfl dX10_ever_1 ?_
  obtain ⟨v1, S2, e3, h⟩ := g_bd_ex h
  refine q_cvi (As := [.int a0]) cx mo_X10_isThing mv_X10_isThing z_cl10 rfl tb_303 (by decide) rfl (by decide) rfl rfl (Nat.le_of_ble_eq_true rfl) dX10_ever_2 (c_X10_isThing a0 _ e3) ?_
  refine q_ifb_eq (tgt := 25) cx (by decide) dX10_ever_5 (fun c4 => ?_) (fun c4 => ?_)
  · have h := g_f (Bool.eq_false_iff.mp c4) h
    refine z_ldc2 cx tb_442 dX10_ever_25 ?_
    obtain ⟨rfl, rfl⟩ := g_some h
    exact z_lreturn cx ce rfl ⟨rfl, rfl⟩ dX10_ever_28
  · have h := g_t c4 h
    refine z_iload_n cx rfl rfl dX10_ever_8 ?_
    refine z_bipush (v := 7) cx (by decide +kernel) dX10_ever_9 ?_
    obtain ⟨v5, S6, e7, h⟩ := g_bd_ex h
    refine q_csi (As := [.int a1, .int 7]) cx mo_X10_within ms_X10_within tb_171 (by decide) rfl rfl (Nat.le_of_ble_eq_true rfl) dX10_ever_11 (c_X10_within a1 7 _ e7) ?_
    refine q_ifb_eq (tgt := 25) cx (by decide) dX10_ever_14 (fun c8 => ?_) (fun c8 => ?_)
    · have h := g_f (Bool.eq_false_iff.mp c8) h
      refine z_ldc2 cx tb_442 dX10_ever_25 ?_
      obtain ⟨rfl, rfl⟩ := g_some h
      exact z_lreturn cx ce rfl ⟨rfl, rfl⟩ dX10_ever_28
    · have h := g_t c8 h
      refine z_iload_n cx rfl rfl dX10_ever_17 ?_
      refine z_iconst (v := 1) cx (by decide +kernel) dX10_ever_18 ?_
      obtain ⟨v9, S10, e11, h⟩ := g_bd_ex h
      refine q_csi (As := [.int a2, .int 1]) cx mo_X10_within ms_X10_within tb_171 (by decide) rfl rfl (Nat.le_of_ble_eq_true rfl) dX10_ever_19 (c_X10_within a2 1 _ e11) ?_
      refine q_ifb_ne (tgt := 29) cx (by decide) dX10_ever_22 (fun c12 => ?_) (fun c12 => ?_)
      · have h := g_t c12 h
        refine z_sipush (v := 144) cx (by decide +kernel) dX10_ever_29 ?_
        refine z_aload_n cx rfl rfl dX10_ever_32 ?_
        refine q_getF (k := 0) (n := 1) (r := 1) cx z_cl10 (j := 0) (by decide) tb_16 rfl (by decide) rfl rfl rfl dX10_ever_33 ?_
        refine z_iconst (v := 0) cx (by decide +kernel) dX10_ever_36 ?_
        refine z_iload_n cx rfl rfl dX10_ever_37 ?_
        obtain ⟨v13, S14, e15, h⟩ := g_bd_ex h
        refine q_cvi (As := [.int 0, .int a0]) cx mo_X9_ofThing mv_X9_ofThing z_cl9 rfl tb_449 (by decide) rfl (by decide) rfl rfl (Nat.le_of_ble_eq_true rfl) dX10_ever_38 (c_X9_ofThing 0 a0 _ e15) ?_
        refine z_isub cx dX10_ever_41 ?_
        refine z_i2l cx dX10_ever_42 ?_
        refine z_lstore (L' := [some (.ref (z_ad g 0)), some (.int a0), some (.int a1), some (.int a2), some (.long (Int32.toInt64 (144 - v13))), none, none, none, none, none, none]) cx (by decide) rfl dX10_ever_43 ?_
        refine z_lconst (v := 1) cx (by decide +kernel) dX10_ever_45 ?_
        refine z_lstore (L' := [some (.ref (z_ad g 0)), some (.int a0), some (.int a1), some (.int a2), some (.long (Int32.toInt64 (144 - v13))), none, some (.long 1), none, none, none, none]) cx (by decide) rfl dX10_ever_46 ?_
        refine z_lconst (v := 1) cx (by decide +kernel) dX10_ever_48 ?_
        refine z_lstore (L' := [some (.ref (z_ad g 0)), some (.int a0), some (.int a1), some (.int a2), some (.long (Int32.toInt64 (144 - v13))), none, some (.long 1), none, some (.long 1), none, none]) cx (by decide) rfl dX10_ever_49 ?_
        refine z_iconst (v := 0) cx (by decide +kernel) dX10_ever_51 ?_
        refine z_istore (L' := [some (.ref (z_ad g 0)), some (.int a0), some (.int a1), some (.int a2), some (.long (Int32.toInt64 (144 - v13))), none, some (.long 1), none, some (.long 1), none, some (.int 0)]) cx (by decide) rfl dX10_ever_52 ?_
        exact q_weak (z_wk_s (z_wk_n (z_wk_s (z_wk_s (z_wk_s (z_wk_n (z_wk_s (z_wk_n (z_wk_s (z_wk_n (z_wk_s (z_wk_0)))))))))))) (t_X10_ever_54 n cx ce n a1 a2 (Int32.toInt64 (144 - v13)) 1 1 0 S14 h)
      · have h := g_f (Bool.eq_false_iff.mp c12) h
        refine z_ldc2 cx tb_442 dX10_ever_25 ?_
        obtain ⟨rfl, rfl⟩ := g_some h
        exact z_lreturn cx ce rfl ⟨rfl, rfl⟩ dX10_ever_28
theorem c_X10_ever {g : z_G} {n : Nat} (a0 : Int32) (a1 : Int32) (a2 : Int32) (S : z_Stt) {v : Int64} {S' : z_Stt} (h : f_X10_ever n a0 a1 a2 S = some (v, S')) : z_Ct g M_X10_ever 2 [.ref (z_ad g 0), .int a0, .int a1, .int a2] (hp g S) (z_P g (some (.long v)) S') :=
  z_Ct.of (by decide +kernel) rfl (Nat.le_of_ble_eq_true rfl) (fun K cx ce => q_weak (L' := [some (.ref (z_ad g 0)), some (.int a0), some (.int a1), some (.int a2), none, none, none, none, none, none, none]) (z_wk_s (z_wk_s (z_wk_s (z_wk_s (z_wk_e (z_wk_e (z_wk_e (z_wk_e (z_wk_e (z_wk_e (z_wk_e (z_wk_0)))))))))))) (t_X10_ever n cx ce a0 a1 a2 S h))
abbrev M_X10_camera : z_M := (RX10, yX10_camera, cX10_camera, 5, some .long)
theorem mo_X10_camera : z_mo M_X10_camera 3 := ⟨tb_827, tb_2, rfl, ⟨by decide +kernel, by decide +kernel⟩, by decide +kernel, by decide⟩
theorem mv_X10_camera : z_mv M_X10_camera := ⟨tb_825, tb_826⟩
def f_X10_camera (n : Nat) (a0 : Int32) (a1 : Int32) (a2 : Int32) (S : z_Stt) : Option (Int64 × z_Stt) :=
  g_bd (f_X10_isDoubt a0 S) fun v1 S2 =>
  if v1 = true then
    g_bd (f_X10_within a1 99 S2) fun v5 S6 =>
    if v5 = true then
      g_bd (f_X10_within a2 2 S6) fun v9 S10 =>
      if v9 = true then
        g_bd (f_X10_findDoubts n a0 S10) fun v13 S14 =>
        if v13 = true then
          g_bd (f_X10_wayBack a1 S14) fun v17 S18 =>
          g_bd (f_X2_bestSeen n (Int32.toInt64 v17) S18) fun v20 S21 =>
          if 0 ≤ v20 then
            if a2 = 2 then
              some (Int32.toInt64 v20, S21)
            else
              g_bd (f_X10_wayBack a1 S21) fun v25 S26 =>
              g_bd (f_X2_savedBy v20 (Int32.toInt64 v25) S26) fun v28 S29 =>
              g_bd (f_X4_become n 17 v28 (S29.2.1 1804) S29) fun v31 S32 =>
              g_bd (f_X4_part 17 a2 S32) fun v34 S35 =>
              some (v34, S35)
          else
            some ((-2), S21)
        else
          some ((-2), S14)
      else
        some ((-9223372036854775808), S10)
    else
      some ((-9223372036854775808), S6)
  else
    some ((-9223372036854775808), S2)
set_option maxHeartbeats 4000000 in
set_option maxRecDepth 100000 in
theorem t_X10_camera {g : z_G} {K : z_K} (n : Nat) {v : Int64} {S' : z_Stt} (cx : z_C g M_X10_camera 6 K) (ce : z_E' g M_X10_camera (z_P g (some (.long v)) S') K) (a0 : Int32) (a1 : Int32) (a2 : Int32) (S : z_Stt) (h : f_X10_camera n a0 a1 a2 S = some (v, S')) : z_At g M_X10_camera K 0 [some (.ref (z_ad g 0)), some (.int a0), some (.int a1), some (.int a2), none] [] (hp g S) := by
  unfold f_X10_camera at h
  refine z_aload_n cx rfl rfl dX10_camera_0 ?_
  refine z_iload_n cx rfl rfl dX10_camera_1 ?_
  obtain ⟨v1, S2, e3, h⟩ := g_bd_ex h
  refine q_cvi (As := [.int a0]) cx mo_X10_isDoubt mv_X10_isDoubt z_cl10 rfl tb_577 (by decide) rfl (by decide) rfl rfl (Nat.le_of_ble_eq_true rfl) dX10_camera_2 (c_X10_isDoubt a0 _ e3) ?_
  refine q_ifb_eq (tgt := 25) cx (by decide) dX10_camera_5 (fun c4 => ?_) (fun c4 => ?_)
  · have h := g_f (Bool.eq_false_iff.mp c4) h
    refine z_ldc2 cx tb_442 dX10_camera_25 ?_
    obtain ⟨rfl, rfl⟩ := g_some h
    exact z_lreturn cx ce rfl ⟨rfl, rfl⟩ dX10_camera_28
  · have h := g_t c4 h
    refine z_iload_n cx rfl rfl dX10_camera_8 ?_
    refine z_bipush (v := 99) cx (by decide +kernel) dX10_camera_9 ?_
    obtain ⟨v5, S6, e7, h⟩ := g_bd_ex h
    refine q_csi (As := [.int a1, .int 99]) cx mo_X10_within ms_X10_within tb_171 (by decide) rfl rfl (Nat.le_of_ble_eq_true rfl) dX10_camera_11 (c_X10_within a1 99 _ e7) ?_
    refine q_ifb_eq (tgt := 25) cx (by decide) dX10_camera_14 (fun c8 => ?_) (fun c8 => ?_)
    · have h := g_f (Bool.eq_false_iff.mp c8) h
      refine z_ldc2 cx tb_442 dX10_camera_25 ?_
      obtain ⟨rfl, rfl⟩ := g_some h
      exact z_lreturn cx ce rfl ⟨rfl, rfl⟩ dX10_camera_28
    · have h := g_t c8 h
      refine z_iload_n cx rfl rfl dX10_camera_17 ?_
      refine z_iconst (v := 2) cx (by decide +kernel) dX10_camera_18 ?_
      obtain ⟨v9, S10, e11, h⟩ := g_bd_ex h
      refine q_csi (As := [.int a2, .int 2]) cx mo_X10_within ms_X10_within tb_171 (by decide) rfl rfl (Nat.le_of_ble_eq_true rfl) dX10_camera_19 (c_X10_within a2 2 _ e11) ?_
      refine q_ifb_ne (tgt := 29) cx (by decide) dX10_camera_22 (fun c12 => ?_) (fun c12 => ?_)
      · have h := g_t c12 h
        refine z_aload_n cx rfl rfl dX10_camera_29 ?_
        refine z_iload_n cx rfl rfl dX10_camera_30 ?_
        obtain ⟨v13, S14, e15, h⟩ := g_bd_ex h
        refine q_cvi (As := [.int a0]) cx mo_X10_findDoubts mv_X10_findDoubts z_cl10 rfl tb_592 (by decide) rfl (by decide) rfl rfl (Nat.le_of_ble_eq_true rfl) dX10_camera_31 (c_X10_findDoubts a0 _ e15) ?_
        refine q_ifb_ne (tgt := 41) cx (by decide) dX10_camera_34 (fun c16 => ?_) (fun c16 => ?_)
        · have h := g_t c16 h
          refine z_aload_n cx rfl rfl dX10_camera_41 ?_
          refine q_getF (k := 0) (n := 18) (r := 18) cx z_cl10 (j := 7) (by decide) tb_38 rfl (by decide) rfl rfl rfl dX10_camera_42 ?_
          refine z_aload_n cx rfl rfl dX10_camera_45 ?_
          refine z_iload_n cx rfl rfl dX10_camera_46 ?_
          obtain ⟨v17, S18, e19, h⟩ := g_bd_ex h
          refine q_cvi (As := [.int a1]) cx mo_X10_wayBack mv_X10_wayBack z_cl10 rfl tb_528 (by decide) rfl (by decide) rfl rfl (Nat.le_of_ble_eq_true rfl) dX10_camera_47 (c_X10_wayBack a1 _ e19) ?_
          refine z_i2l cx dX10_camera_50 ?_
          obtain ⟨v20, S21, e22, h⟩ := g_bd_ex h
          refine q_cvi (As := [.long (Int32.toInt64 v17)]) cx mo_X2_bestSeen mv_X2_bestSeen z_cl2 rfl tb_828 (by decide) rfl (by decide) rfl rfl (Nat.le_of_ble_eq_true rfl) dX10_camera_51 (c_X2_bestSeen (Int32.toInt64 v17) _ e22) ?_
          refine z_istore (L' := [some (.ref (z_ad g 0)), some (.int a0), some (.int a1), some (.int a2), some (.int v20)]) cx (by decide) rfl dX10_camera_54 ?_
          refine z_iload cx rfl dX10_camera_56 ?_
          refine z_if_ge (tgt := 65) cx (by decide) dX10_camera_58 (fun c23 => ?_) (fun c23 => ?_)
          · have h := g_t c23 h
            refine z_iload_n cx rfl rfl dX10_camera_65 ?_
            refine z_iconst (v := 2) cx (by decide +kernel) dX10_camera_66 ?_
            refine z_icmp_ne (tgt := 74) cx (by decide) dX10_camera_67 (fun c24 => ?_) (fun c24 => ?_)
            · have h := g_f c24 h
              refine z_aload_n cx rfl rfl dX10_camera_74 ?_
              refine q_getF (k := 0) (n := 17) (r := 17) cx z_cl10 (j := 6) (by decide) tb_34 rfl (by decide) rfl rfl rfl dX10_camera_75 ?_
              refine z_aload_n cx rfl rfl dX10_camera_78 ?_
              refine q_getF (k := 0) (n := 18) (r := 18) cx z_cl10 (j := 7) (by decide) tb_38 rfl (by decide) rfl rfl rfl dX10_camera_79 ?_
              refine z_iload cx rfl dX10_camera_82 ?_
              refine z_aload_n cx rfl rfl dX10_camera_84 ?_
              refine z_iload_n cx rfl rfl dX10_camera_85 ?_
              obtain ⟨v25, S26, e27, h⟩ := g_bd_ex h
              refine q_cvi (As := [.int a1]) cx mo_X10_wayBack mv_X10_wayBack z_cl10 rfl tb_528 (by decide) rfl (by decide) rfl rfl (Nat.le_of_ble_eq_true rfl) dX10_camera_86 (c_X10_wayBack a1 _ e27) ?_
              refine z_i2l cx dX10_camera_89 ?_
              obtain ⟨v28, S29, e30, h⟩ := g_bd_ex h
              refine q_cvl (As := [.int v20, .long (Int32.toInt64 v25)]) cx mo_X2_savedBy mv_X2_savedBy z_cl2 rfl tb_836 (by decide) rfl (by decide) rfl rfl (Nat.le_of_ble_eq_true rfl) dX10_camera_90 (c_X2_savedBy v20 (Int32.toInt64 v25) _ e30) ?_
              refine z_aload_n cx rfl rfl dX10_camera_93 ?_
              refine q_getF (k := 0) (n := 18) (r := 18) cx z_cl10 (j := 7) (by decide) tb_38 rfl (by decide) rfl rfl rfl dX10_camera_94 ?_
              refine q_getJ (k := 18) (n := 1804) cx z_cl2 (j := 4) (by decide) tb_576 rfl (by decide) rfl rfl rfl dX10_camera_97 ?_
              obtain ⟨v31, S32, e33, h⟩ := g_bd_ex h
              refine q_cvi (As := [.long v28, .long (S29.2.1 1804)]) cx mo_X4_become mv_X4_become z_cl4 rfl tb_454 (by decide) rfl (by decide) rfl rfl (Nat.le_of_ble_eq_true rfl) dX10_camera_100 (c_X4_become 17 v28 (S29.2.1 1804) _ wp4_17 e33) ?_
              refine z_pop cx rfl dX10_camera_103 ?_
              refine z_aload_n cx rfl rfl dX10_camera_104 ?_
              refine q_getF (k := 0) (n := 17) (r := 17) cx z_cl10 (j := 6) (by decide) tb_34 rfl (by decide) rfl rfl rfl dX10_camera_105 ?_
              refine z_iload_n cx rfl rfl dX10_camera_108 ?_
              obtain ⟨v34, S35, e36, h⟩ := g_bd_ex h
              refine q_cvl (As := [.int a2]) cx mo_X4_part mv_X4_part z_cl4 rfl tb_476 (by decide) rfl (by decide) rfl rfl (Nat.le_of_ble_eq_true rfl) dX10_camera_109 (c_X4_part 17 a2 _ wp4_17 e36) ?_
              obtain ⟨rfl, rfl⟩ := g_some h
              exact z_lreturn cx ce rfl ⟨rfl, rfl⟩ dX10_camera_112
            · have h := g_t c24 h
              refine z_iload cx rfl dX10_camera_70 ?_
              refine z_i2l cx dX10_camera_72 ?_
              obtain ⟨rfl, rfl⟩ := g_some h
              exact z_lreturn cx ce rfl ⟨rfl, rfl⟩ dX10_camera_73
          · have h := g_f c23 h
            refine z_ldc2 cx tb_443 dX10_camera_61 ?_
            obtain ⟨rfl, rfl⟩ := g_some h
            exact z_lreturn cx ce rfl ⟨rfl, rfl⟩ dX10_camera_64
        · have h := g_f (Bool.eq_false_iff.mp c16) h
          refine z_ldc2 cx tb_443 dX10_camera_37 ?_
          obtain ⟨rfl, rfl⟩ := g_some h
          exact z_lreturn cx ce rfl ⟨rfl, rfl⟩ dX10_camera_40
      · have h := g_f (Bool.eq_false_iff.mp c12) h
        refine z_ldc2 cx tb_442 dX10_camera_25 ?_
        obtain ⟨rfl, rfl⟩ := g_some h
        exact z_lreturn cx ce rfl ⟨rfl, rfl⟩ dX10_camera_28
theorem c_X10_camera {g : z_G} {n : Nat} (a0 : Int32) (a1 : Int32) (a2 : Int32) (S : z_Stt) {v : Int64} {S' : z_Stt} (h : f_X10_camera n a0 a1 a2 S = some (v, S')) : z_Ct g M_X10_camera 6 [.ref (z_ad g 0), .int a0, .int a1, .int a2] (hp g S) (z_P g (some (.long v)) S') :=
  z_Ct.of (by decide +kernel) rfl (Nat.le_of_ble_eq_true rfl) (fun K cx ce => q_weak (L' := [some (.ref (z_ad g 0)), some (.int a0), some (.int a1), some (.int a2), none]) (z_wk_s (z_wk_s (z_wk_s (z_wk_s (z_wk_e (z_wk_0)))))) (t_X10_camera n cx ce a0 a1 a2 S h))
abbrev M_X10_isWay : z_M := (RX10, yX10_isWay, cX10_isWay, 1, some .boolean)
theorem mo_X10_isWay : z_mo M_X10_isWay 1 := ⟨tb_850, tb_2, rfl, ⟨by decide +kernel, by decide +kernel⟩, by decide +kernel, by decide⟩
theorem ms_X10_isWay : z_ms M_X10_isWay := tb_849
def f_X10_isWay (a0 : Int32) (S : z_Stt) : Option (Bool × z_Stt) :=
  g_bd (f_X10_within a0 4 S) fun v1 S2 =>
  some (v1, S2)
set_option maxHeartbeats 4000000 in
set_option maxRecDepth 100000 in
theorem t_X10_isWay {g : z_G} {K : z_K} {v : Bool} {S' : z_Stt} (cx : z_C g M_X10_isWay 1 K) (ce : z_E' g M_X10_isWay (z_P g (some (.int (bI v))) S') K) (a0 : Int32) (S : z_Stt) (h : f_X10_isWay a0 S = some (v, S')) : z_At g M_X10_isWay K 0 [some (.int a0)] [] (hp g S) := by
  unfold f_X10_isWay at h
  refine z_iload_n cx rfl rfl dX10_isWay_0 ?_
  refine z_iconst (v := 4) cx (by decide +kernel) dX10_isWay_1 ?_
  obtain ⟨v1, S2, e3, h⟩ := g_bd_ex h
  refine q_csi (As := [.int a0, .int 4]) cx mo_X10_within ms_X10_within tb_171 (by decide) rfl rfl (Nat.le_of_ble_eq_true rfl) dX10_isWay_2 (c_X10_within a0 4 _ e3) ?_
  obtain ⟨rfl, rfl⟩ := g_some h
  exact z_zreturn cx ce rfl (bI_nar _) ⟨rfl, rfl⟩ dX10_isWay_5
theorem c_X10_isWay {g : z_G} (a0 : Int32) (S : z_Stt) {v : Bool} {S' : z_Stt} (h : f_X10_isWay a0 S = some (v, S')) : z_Ct g M_X10_isWay 1 [.int a0] (hp g S) (z_P g (some (.int (bI v))) S') :=
  z_Ct.of (by decide +kernel) rfl (Nat.le_of_ble_eq_true rfl) (fun K cx ce => q_weak (L' := [some (.int a0)]) (z_wk_s (z_wk_0)) (t_X10_isWay cx ce a0 S h))
abbrev M_X10_decides : z_M := (RX10, yX10_decides, cX10_decides, 5, some .boolean)
theorem mo_X10_decides : z_mo M_X10_decides 4 := ⟨tb_854, tb_2, rfl, ⟨by decide +kernel, by decide +kernel⟩, by decide +kernel, by decide⟩
theorem mv_X10_decides : z_mv M_X10_decides := ⟨tb_852, tb_853⟩
def f_X10_decides (n : Nat) (a0 : Int32) (a1 : Int32) (a2 : Int32) (a3 : Int32) (S : z_Stt) : Option (Bool × z_Stt) :=
  if a0 = 1 then
    some (true, S)
  else if a0 = 2 then
    if a2 = 0 then
      some (true, S)
    else
      some (false, S)
  else if a0 = 3 then
    g_bd (f_X10_findOpen n a1 a2 17 S) fun v5 S6 =>
    g_bd (f_X10_paysBy 17 a1 a3 S6) fun v8 S9 =>
    some (v8, S9)
  else if a0 = 4 then
    g_bd (f_X10_findOpen n a1 a2 17 S) fun v12 S13 =>
    g_bd (f_X4_of144 17 S13) fun v15 S16 =>
    g_bd (f_X9_ofThing 3 a1 S16) fun v18 S19 =>
    g_bd (f_X9_price S19) fun v21 S22 =>
    g_bd (f_X6_says n v15 v18 a3 v21 (S22.1 702) 1 S22) fun v24 S25 =>
    some (v24, S25)
  else 
    some (false, S)
set_option maxHeartbeats 4000000 in
set_option maxRecDepth 100000 in
theorem t_X10_decides {g : z_G} {K : z_K} (n : Nat) {v : Bool} {S' : z_Stt} (cx : z_C g M_X10_decides 68 K) (ce : z_E' g M_X10_decides (z_P g (some (.int (bI v))) S') K) (a0 : Int32) (a1 : Int32) (a2 : Int32) (a3 : Int32) (S : z_Stt) (h : f_X10_decides n a0 a1 a2 a3 S = some (v, S')) : z_At g M_X10_decides K 0 [some (.ref (z_ad g 0)), some (.int a0), some (.int a1), some (.int a2), some (.int a3)] [] (hp g S) := by
  unfold f_X10_decides at h
  refine z_iload_n cx rfl rfl dX10_decides_0 ?_
  by_cases c1 : a0 = 1
  · have h := g_t c1 h
    refine z_tableIn (tgt := 32) (off := 31) cx (by rw [c1]; decide +kernel) (by rw [c1]; decide +kernel) (by rw [c1]; decide +kernel) (by decide) dX10_decides_1 ?_
    refine z_iconst (v := 1) cx (by decide +kernel) dX10_decides_32 ?_
    obtain ⟨rfl, rfl⟩ := g_some h
    exact z_zreturn cx ce rfl (by decide +kernel) ⟨rfl, rfl⟩ dX10_decides_33
  have h := g_f c1 h
  by_cases c2 : a0 = 2
  · have h := g_t c2 h
    refine z_tableIn (tgt := 34) (off := 33) cx (by rw [c2]; decide +kernel) (by rw [c2]; decide +kernel) (by rw [c2]; decide +kernel) (by decide) dX10_decides_1 ?_
    refine z_iload_n cx rfl rfl dX10_decides_34 ?_
    refine z_if_ne (tgt := 42) cx (by decide) dX10_decides_35 (fun c3 => ?_) (fun c3 => ?_)
    · have h := g_f c3 h
      refine z_iconst (v := 0) cx (by decide +kernel) dX10_decides_42 ?_
      obtain ⟨rfl, rfl⟩ := g_some h
      exact z_zreturn cx ce rfl (by decide +kernel) ⟨rfl, rfl⟩ dX10_decides_43
    · have h := g_t c3 h
      refine z_iconst (v := 1) cx (by decide +kernel) dX10_decides_38 ?_
      refine z_goto (tgt := 43) cx (by decide) dX10_decides_39 ?_
      obtain ⟨rfl, rfl⟩ := g_some h
      exact z_zreturn cx ce rfl (by decide +kernel) ⟨rfl, rfl⟩ dX10_decides_43
  have h := g_f c2 h
  by_cases c4 : a0 = 3
  · have h := g_t c4 h
    refine z_tableIn (tgt := 44) (off := 43) cx (by rw [c4]; decide +kernel) (by rw [c4]; decide +kernel) (by rw [c4]; decide +kernel) (by decide) dX10_decides_1 ?_
    refine z_aload_n cx rfl rfl dX10_decides_44 ?_
    refine z_iload_n cx rfl rfl dX10_decides_45 ?_
    refine z_iload_n cx rfl rfl dX10_decides_46 ?_
    refine z_aload_n cx rfl rfl dX10_decides_47 ?_
    refine q_getF (k := 0) (n := 17) (r := 17) cx z_cl10 (j := 6) (by decide) tb_34 rfl (by decide) rfl rfl rfl dX10_decides_48 ?_
    obtain ⟨v5, S6, e7, h⟩ := g_bd_ex h
    refine q_cvi (As := [.int a1, .int a2, .ref (z_ad g 17)]) cx mo_X10_findOpen mv_X10_findOpen z_cl10 rfl tb_444 (by decide) rfl (by decide) rfl rfl (Nat.le_of_ble_eq_true rfl) dX10_decides_51 (c_X10_findOpen a1 a2 17 _ wp4_17 e7) ?_
    refine z_pop cx rfl dX10_decides_54 ?_
    refine z_aload_n cx rfl rfl dX10_decides_55 ?_
    refine z_aload_n cx rfl rfl dX10_decides_56 ?_
    refine q_getF (k := 0) (n := 17) (r := 17) cx z_cl10 (j := 6) (by decide) tb_34 rfl (by decide) rfl rfl rfl dX10_decides_57 ?_
    refine z_iload_n cx rfl rfl dX10_decides_60 ?_
    refine z_iload cx rfl dX10_decides_61 ?_
    obtain ⟨v8, S9, e10, h⟩ := g_bd_ex h
    refine q_cvi (As := [.ref (z_ad g 17), .int a1, .int a3]) cx mo_X10_paysBy mv_X10_paysBy z_cl10 rfl tb_522 (by decide) rfl (by decide) rfl rfl (Nat.le_of_ble_eq_true rfl) dX10_decides_63 (c_X10_paysBy 17 a1 a3 _ wp4_17 e10) ?_
    obtain ⟨rfl, rfl⟩ := g_some h
    exact z_zreturn cx ce rfl (bI_nar _) ⟨rfl, rfl⟩ dX10_decides_66
  have h := g_f c4 h
  by_cases c11 : a0 = 4
  · have h := g_t c11 h
    refine z_tableIn (tgt := 67) (off := 66) cx (by rw [c11]; decide +kernel) (by rw [c11]; decide +kernel) (by rw [c11]; decide +kernel) (by decide) dX10_decides_1 ?_
    refine z_aload_n cx rfl rfl dX10_decides_67 ?_
    refine z_iload_n cx rfl rfl dX10_decides_68 ?_
    refine z_iload_n cx rfl rfl dX10_decides_69 ?_
    refine z_aload_n cx rfl rfl dX10_decides_70 ?_
    refine q_getF (k := 0) (n := 17) (r := 17) cx z_cl10 (j := 6) (by decide) tb_34 rfl (by decide) rfl rfl rfl dX10_decides_71 ?_
    obtain ⟨v12, S13, e14, h⟩ := g_bd_ex h
    refine q_cvi (As := [.int a1, .int a2, .ref (z_ad g 17)]) cx mo_X10_findOpen mv_X10_findOpen z_cl10 rfl tb_444 (by decide) rfl (by decide) rfl rfl (Nat.le_of_ble_eq_true rfl) dX10_decides_74 (c_X10_findOpen a1 a2 17 _ wp4_17 e14) ?_
    refine z_pop cx rfl dX10_decides_77 ?_
    refine z_aload_n cx rfl rfl dX10_decides_78 ?_
    refine q_getF (k := 0) (n := 13) (r := 13) cx z_cl10 (j := 5) (by decide) tb_30 rfl (by decide) rfl rfl rfl dX10_decides_79 ?_
    refine z_aload_n cx rfl rfl dX10_decides_82 ?_
    refine q_getF (k := 0) (n := 17) (r := 17) cx z_cl10 (j := 6) (by decide) tb_34 rfl (by decide) rfl rfl rfl dX10_decides_83 ?_
    obtain ⟨v15, S16, e17, h⟩ := g_bd_ex h
    refine q_cvi (As := []) cx mo_X4_of144 mv_X4_of144 z_cl4 rfl tb_668 (by decide) rfl (by decide) rfl rfl (Nat.le_of_ble_eq_true rfl) dX10_decides_86 (c_X4_of144 17 _ wp4_17 e17) ?_
    refine z_aload_n cx rfl rfl dX10_decides_89 ?_
    refine q_getF (k := 0) (n := 1) (r := 1) cx z_cl10 (j := 0) (by decide) tb_16 rfl (by decide) rfl rfl rfl dX10_decides_90 ?_
    refine z_iconst (v := 3) cx (by decide +kernel) dX10_decides_93 ?_
    refine z_iload_n cx rfl rfl dX10_decides_94 ?_
    obtain ⟨v18, S19, e20, h⟩ := g_bd_ex h
    refine q_cvi (As := [.int 3, .int a1]) cx mo_X9_ofThing mv_X9_ofThing z_cl9 rfl tb_449 (by decide) rfl (by decide) rfl rfl (Nat.le_of_ble_eq_true rfl) dX10_decides_95 (c_X9_ofThing 3 a1 _ e20) ?_
    refine z_iload cx rfl dX10_decides_98 ?_
    refine z_aload_n cx rfl rfl dX10_decides_100 ?_
    refine q_getF (k := 0) (n := 1) (r := 1) cx z_cl10 (j := 0) (by decide) tb_16 rfl (by decide) rfl rfl rfl dX10_decides_101 ?_
    obtain ⟨v21, S22, e23, h⟩ := g_bd_ex h
    refine q_cvi (As := []) cx mo_X9_price mv_X9_price z_cl9 rfl tb_532 (by decide) rfl (by decide) rfl rfl (Nat.le_of_ble_eq_true rfl) dX10_decides_104 (c_X9_price  _ e23) ?_
    refine z_aload_n cx rfl rfl dX10_decides_107 ?_
    refine q_getF (k := 0) (n := 7) (r := 7) cx z_cl10 (j := 2) (by decide) tb_24 rfl (by decide) rfl rfl rfl dX10_decides_108 ?_
    refine q_getI (k := 7) (n := 702) cx z_cl1 (j := 2) (by decide) tb_301 rfl (by decide) rfl rfl rfl dX10_decides_111 ?_
    refine z_iconst (v := 1) cx (by decide +kernel) dX10_decides_114 ?_
    obtain ⟨v24, S25, e26, h⟩ := g_bd_ex h
    refine q_cvi (As := [.int v15, .int v18, .int a3, .int v21, .int (S22.1 702), .int 1]) cx mo_X6_says mv_X6_says z_cl6 rfl tb_669 (by decide) rfl (by decide) rfl rfl (Nat.le_of_ble_eq_true rfl) dX10_decides_115 (c_X6_says v15 v18 a3 v21 (S22.1 702) 1 _ e26) ?_
    obtain ⟨rfl, rfl⟩ := g_some h
    exact z_zreturn cx ce rfl (bI_nar _) ⟨rfl, rfl⟩ dX10_decides_118
  have h := g_f c11 h
  refine q_tableD (tgt := 119) (lo := 1) (hi := 4) cx [1, 2, 3, 4] (by decide +kernel) (by intro a ha; simp only [List.mem_cons, List.not_mem_nil, or_false] at ha; rcases ha with rfl | rfl | rfl | rfl <;> assumption) (by decide) dX10_decides_1 ?_
  refine z_iconst (v := 0) cx (by decide +kernel) dX10_decides_119 ?_
  obtain ⟨rfl, rfl⟩ := g_some h
  exact z_zreturn cx ce rfl (by decide +kernel) ⟨rfl, rfl⟩ dX10_decides_120
theorem c_X10_decides {g : z_G} {n : Nat} (a0 : Int32) (a1 : Int32) (a2 : Int32) (a3 : Int32) (S : z_Stt) {v : Bool} {S' : z_Stt} (h : f_X10_decides n a0 a1 a2 a3 S = some (v, S')) : z_Ct g M_X10_decides 68 [.ref (z_ad g 0), .int a0, .int a1, .int a2, .int a3] (hp g S) (z_P g (some (.int (bI v))) S') :=
  z_Ct.of (by decide +kernel) rfl (Nat.le_of_ble_eq_true rfl) (fun K cx ce => q_weak (L' := [some (.ref (z_ad g 0)), some (.int a0), some (.int a1), some (.int a2), some (.int a3)]) (z_wk_s (z_wk_s (z_wk_s (z_wk_s (z_wk_s (z_wk_0)))))) (t_X10_decides n cx ce a0 a1 a2 a3 S h))
abbrev M_X10_costOf : z_M := (RX10, yX10_costOf, cX10_costOf, 5, some .int)
theorem mo_X10_costOf : z_mo M_X10_costOf 4 := ⟨tb_867, tb_2, rfl, ⟨by decide +kernel, by decide +kernel⟩, by decide +kernel, by decide⟩
theorem mv_X10_costOf : z_mv M_X10_costOf := ⟨tb_865, tb_866⟩
def f_X10_costOf (a0 : Int32) (a1 : Int32) (a2 : Int32) (a3 : Int32) (S : z_Stt) : Option (Int32 × z_Stt) :=
  if a2 = 0 then
    if a3 = 0 then
      some (0, S)
    else
      g_bd (f_X9_ofThing 3 a0 S) fun v3 S4 =>
      some (v3, S4)
  else
    g_bd (f_X10_wayBack a1 S) fun v6 S7 =>
    some (v6, S7)
set_option maxHeartbeats 4000000 in
set_option maxRecDepth 100000 in
theorem t_X10_costOf {g : z_G} {K : z_K} {v : Int32} {S' : z_Stt} (cx : z_C g M_X10_costOf 2 K) (ce : z_E' g M_X10_costOf (z_P g (some (.int v)) S') K) (a0 : Int32) (a1 : Int32) (a2 : Int32) (a3 : Int32) (S : z_Stt) (h : f_X10_costOf a0 a1 a2 a3 S = some (v, S')) : z_At g M_X10_costOf K 0 [some (.ref (z_ad g 0)), some (.int a0), some (.int a1), some (.int a2), some (.int a3)] [] (hp g S) := by
  unfold f_X10_costOf at h
  refine z_iload_n cx rfl rfl dX10_costOf_0 ?_
  refine z_if_eq (tgt := 10) cx (by decide) dX10_costOf_1 (fun c1 => ?_) (fun c1 => ?_)
  · have h := g_t c1 h
    refine z_iload cx rfl dX10_costOf_10 ?_
    refine z_if_eq (tgt := 27) cx (by decide) dX10_costOf_12 (fun c2 => ?_) (fun c2 => ?_)
    · have h := g_t c2 h
      refine z_iconst (v := 0) cx (by decide +kernel) dX10_costOf_27 ?_
      obtain ⟨rfl, rfl⟩ := g_some h
      exact z_ireturn cx ce rfl ⟨rfl, rfl⟩ dX10_costOf_28
    · have h := g_f c2 h
      refine z_aload_n cx rfl rfl dX10_costOf_15 ?_
      refine q_getF (k := 0) (n := 1) (r := 1) cx z_cl10 (j := 0) (by decide) tb_16 rfl (by decide) rfl rfl rfl dX10_costOf_16 ?_
      refine z_iconst (v := 3) cx (by decide +kernel) dX10_costOf_19 ?_
      refine z_iload_n cx rfl rfl dX10_costOf_20 ?_
      obtain ⟨v3, S4, e5, h⟩ := g_bd_ex h
      refine q_cvi (As := [.int 3, .int a0]) cx mo_X9_ofThing mv_X9_ofThing z_cl9 rfl tb_449 (by decide) rfl (by decide) rfl rfl (Nat.le_of_ble_eq_true rfl) dX10_costOf_21 (c_X9_ofThing 3 a0 _ e5) ?_
      refine z_goto (tgt := 28) cx (by decide) dX10_costOf_24 ?_
      obtain ⟨rfl, rfl⟩ := g_some h
      exact z_ireturn cx ce rfl ⟨rfl, rfl⟩ dX10_costOf_28
  · have h := g_f c1 h
    refine z_aload_n cx rfl rfl dX10_costOf_4 ?_
    refine z_iload_n cx rfl rfl dX10_costOf_5 ?_
    obtain ⟨v6, S7, e8, h⟩ := g_bd_ex h
    refine q_cvi (As := [.int a1]) cx mo_X10_wayBack mv_X10_wayBack z_cl10 rfl tb_528 (by decide) rfl (by decide) rfl rfl (Nat.le_of_ble_eq_true rfl) dX10_costOf_6 (c_X10_wayBack a1 _ e8) ?_
    obtain ⟨rfl, rfl⟩ := g_some h
    exact z_ireturn cx ce rfl ⟨rfl, rfl⟩ dX10_costOf_9
theorem c_X10_costOf {g : z_G} (a0 : Int32) (a1 : Int32) (a2 : Int32) (a3 : Int32) (S : z_Stt) {v : Int32} {S' : z_Stt} (h : f_X10_costOf a0 a1 a2 a3 S = some (v, S')) : z_Ct g M_X10_costOf 2 [.ref (z_ad g 0), .int a0, .int a1, .int a2, .int a3] (hp g S) (z_P g (some (.int v)) S') :=
  z_Ct.of (by decide +kernel) rfl (Nat.le_of_ble_eq_true rfl) (fun K cx ce => q_weak (L' := [some (.ref (z_ad g 0)), some (.int a0), some (.int a1), some (.int a2), some (.int a3)]) (z_wk_s (z_wk_s (z_wk_s (z_wk_s (z_wk_s (z_wk_0)))))) (t_X10_costOf cx ce a0 a1 a2 a3 S h))
abbrev M_X10_drawn : z_M := (RX10, yX10_drawn, cX10_drawn, 14, some .int)
theorem mo_X10_drawn : z_mo M_X10_drawn 4 := ⟨tb_844, tb_2, rfl, ⟨by decide +kernel, by decide +kernel⟩, by decide +kernel, by decide⟩
theorem mv_X10_drawn : z_mv M_X10_drawn := ⟨tb_842, tb_843⟩
def f_X10_drawn_213 (n : Nat) (k123 : Int32 → Int32 → Int32 → Int32 → Int32 → Int32 → Int32 → Int32 → Int32 → Int32 → z_Stt → Option (Int32 × z_Stt)) (x2 : Int32) (x4 : Int32) (x5 : Int32) (x6 : Int32) (x7 : Int32) (x8 : Int32) (x9 : Int32) (x10 : Int32) (x12 : Int32) (y0 : Int32) (y1 : Int32) (S : z_Stt) : Option (Int32 × z_Stt) :=
  k123 x2 x4 x5 x6 x7 x8 x9 x10 (y1 + y0) (x12 + 1) S
set_option maxHeartbeats 4000000 in
set_option maxRecDepth 100000 in
theorem t_X10_drawn_213 {g : z_G} {K : z_K} (n : Nat) {v : Int32} {S' : z_Stt} (cx : z_C g M_X10_drawn 69 K) (ce : z_E' g M_X10_drawn (z_P g (some (.int v)) S') K) (k123 : Int32 → Int32 → Int32 → Int32 → Int32 → Int32 → Int32 → Int32 → Int32 → Int32 → z_Stt → Option (Int32 × z_Stt)) (hk123 : ∀ (x2 : Int32) (x4 : Int32) (x5 : Int32) (x6 : Int32) (x7 : Int32) (x8 : Int32) (x9 : Int32) (x10 : Int32) (x11 : Int32) (x12 : Int32) (S : z_Stt), k123 x2 x4 x5 x6 x7 x8 x9 x10 x11 x12 S = some (v, S') → z_At g M_X10_drawn K 123 [some (.ref (z_ad g 0)), none, some (.int x2), none, some (.int x4), some (.int x5), some (.int x6), some (.int x7), some (.int x8), some (.int x9), some (.int x10), some (.int x11), some (.int x12), none] [] (hp g S)) (x2 : Int32) (x4 : Int32) (x5 : Int32) (x6 : Int32) (x7 : Int32) (x8 : Int32) (x9 : Int32) (x10 : Int32) (x12 : Int32) (y0 : Int32) (y1 : Int32) (S : z_Stt) (h : f_X10_drawn_213 n k123 x2 x4 x5 x6 x7 x8 x9 x10 x12 y0 y1 S = some (v, S')) : z_At g M_X10_drawn K 213 [some (.ref (z_ad g 0)), none, some (.int x2), none, some (.int x4), some (.int x5), some (.int x6), some (.int x7), some (.int x8), some (.int x9), some (.int x10), none, some (.int x12), none] [.int y0, .int y1] (hp g S) := by
  unfold f_X10_drawn_213 at h
  refine z_iadd cx dX10_drawn_213 ?_
  refine z_istore (L' := [some (.ref (z_ad g 0)), none, some (.int x2), none, some (.int x4), some (.int x5), some (.int x6), some (.int x7), some (.int x8), some (.int x9), some (.int x10), some (.int (y1 + y0)), some (.int x12), none]) cx (by decide) rfl dX10_drawn_214 ?_
  refine z_iinc (c := 1) (L' := [some (.ref (z_ad g 0)), none, some (.int x2), none, some (.int x4), some (.int x5), some (.int x6), some (.int x7), some (.int x8), some (.int x9), some (.int x10), some (.int (y1 + y0)), some (.int (x12 + 1)), none]) cx rfl (by decide +kernel) (by decide) rfl dX10_drawn_216 ?_
  refine z_goto (tgt := 123) cx (by decide) dX10_drawn_219 ?_
  exact q_weak (z_wk_s (z_wk_n (z_wk_s (z_wk_n (z_wk_s (z_wk_s (z_wk_s (z_wk_s (z_wk_s (z_wk_s (z_wk_s (z_wk_s (z_wk_s (z_wk_n (z_wk_0))))))))))))))) (hk123 x2 x4 x5 x6 x7 x8 x9 x10 (y1 + y0) (x12 + 1) S h)
def f_X10_drawn_212 (n : Nat) (k123 : Int32 → Int32 → Int32 → Int32 → Int32 → Int32 → Int32 → Int32 → Int32 → Int32 → z_Stt → Option (Int32 × z_Stt)) (x2 : Int32) (x4 : Int32) (x5 : Int32) (x6 : Int32) (x7 : Int32) (x8 : Int32) (x9 : Int32) (x10 : Int32) (x12 : Int32) (y0 : Int32) (S : z_Stt) : Option (Int32 × z_Stt) :=
  f_X10_drawn_213 n k123 x2 x4 x5 x6 x7 x8 x9 x10 x12 0 y0 S
set_option maxHeartbeats 4000000 in
set_option maxRecDepth 100000 in
theorem t_X10_drawn_212 {g : z_G} {K : z_K} (n : Nat) {v : Int32} {S' : z_Stt} (cx : z_C g M_X10_drawn 69 K) (ce : z_E' g M_X10_drawn (z_P g (some (.int v)) S') K) (k123 : Int32 → Int32 → Int32 → Int32 → Int32 → Int32 → Int32 → Int32 → Int32 → Int32 → z_Stt → Option (Int32 × z_Stt)) (hk123 : ∀ (x2 : Int32) (x4 : Int32) (x5 : Int32) (x6 : Int32) (x7 : Int32) (x8 : Int32) (x9 : Int32) (x10 : Int32) (x11 : Int32) (x12 : Int32) (S : z_Stt), k123 x2 x4 x5 x6 x7 x8 x9 x10 x11 x12 S = some (v, S') → z_At g M_X10_drawn K 123 [some (.ref (z_ad g 0)), none, some (.int x2), none, some (.int x4), some (.int x5), some (.int x6), some (.int x7), some (.int x8), some (.int x9), some (.int x10), some (.int x11), some (.int x12), none] [] (hp g S)) (x2 : Int32) (x4 : Int32) (x5 : Int32) (x6 : Int32) (x7 : Int32) (x8 : Int32) (x9 : Int32) (x10 : Int32) (x12 : Int32) (y0 : Int32) (S : z_Stt) (h : f_X10_drawn_212 n k123 x2 x4 x5 x6 x7 x8 x9 x10 x12 y0 S = some (v, S')) : z_At g M_X10_drawn K 212 [some (.ref (z_ad g 0)), none, some (.int x2), none, some (.int x4), some (.int x5), some (.int x6), some (.int x7), some (.int x8), some (.int x9), some (.int x10), none, some (.int x12), none] [.int y0] (hp g S) := by
  unfold f_X10_drawn_212 at h
  refine z_iconst (v := 0) cx (by decide +kernel) dX10_drawn_212 ?_
  exact q_weak (z_wk_s (z_wk_n (z_wk_s (z_wk_n (z_wk_s (z_wk_s (z_wk_s (z_wk_s (z_wk_s (z_wk_s (z_wk_s (z_wk_n (z_wk_s (z_wk_n (z_wk_0))))))))))))))) (t_X10_drawn_213 n cx ce k123 hk123 x2 x4 x5 x6 x7 x8 x9 x10 x12 0 y0 S h)
def f_X10_drawn_167 (n : Nat) (k123 : Int32 → Int32 → Int32 → Int32 → Int32 → Int32 → Int32 → Int32 → Int32 → Int32 → z_Stt → Option (Int32 × z_Stt)) (x2 : Int32) (x4 : Int32) (x5 : Int32) (x6 : Int32) (x7 : Int32) (x8 : Int32) (x9 : Int32) (x10 : Int32) (x11 : Int32) (x12 : Int32) (y0 : Int32) (S : z_Stt) : Option (Int32 × z_Stt) :=
  g_bd (f_X10_costOf x5 x6 y0 (S.1 3101) S) fun v1 S2 =>
  if y0 = 0 then
    f_X10_drawn_212 n k123 x2 x4 x5 x6 x7 x8 x9 (x10 + v1) x12 x11 S2
  else
    if S2.1 3101 = 0 then
      f_X10_drawn_213 n k123 x2 x4 x5 x6 x7 x8 x9 (x10 + v1) x12 1 x11 S2
    else
      f_X10_drawn_212 n k123 x2 x4 x5 x6 x7 x8 x9 (x10 + v1) x12 x11 S2
set_option maxHeartbeats 4000000 in
set_option maxRecDepth 100000 in
theorem t_X10_drawn_167 {g : z_G} {K : z_K} (n : Nat) {v : Int32} {S' : z_Stt} (cx : z_C g M_X10_drawn 69 K) (ce : z_E' g M_X10_drawn (z_P g (some (.int v)) S') K) (k123 : Int32 → Int32 → Int32 → Int32 → Int32 → Int32 → Int32 → Int32 → Int32 → Int32 → z_Stt → Option (Int32 × z_Stt)) (hk123 : ∀ (x2 : Int32) (x4 : Int32) (x5 : Int32) (x6 : Int32) (x7 : Int32) (x8 : Int32) (x9 : Int32) (x10 : Int32) (x11 : Int32) (x12 : Int32) (S : z_Stt), k123 x2 x4 x5 x6 x7 x8 x9 x10 x11 x12 S = some (v, S') → z_At g M_X10_drawn K 123 [some (.ref (z_ad g 0)), none, some (.int x2), none, some (.int x4), some (.int x5), some (.int x6), some (.int x7), some (.int x8), some (.int x9), some (.int x10), some (.int x11), some (.int x12), none] [] (hp g S)) (x2 : Int32) (x4 : Int32) (x5 : Int32) (x6 : Int32) (x7 : Int32) (x8 : Int32) (x9 : Int32) (x10 : Int32) (x11 : Int32) (x12 : Int32) (y0 : Int32) (S : z_Stt) (h : f_X10_drawn_167 n k123 x2 x4 x5 x6 x7 x8 x9 x10 x11 x12 y0 S = some (v, S')) : z_At g M_X10_drawn K 167 [some (.ref (z_ad g 0)), none, some (.int x2), none, some (.int x4), some (.int x5), some (.int x6), some (.int x7), some (.int x8), some (.int x9), some (.int x10), some (.int x11), some (.int x12), none] [.int y0] (hp g S) := by
  unfold f_X10_drawn_167 at h
  refine z_istore (L' := [some (.ref (z_ad g 0)), none, some (.int x2), none, some (.int x4), some (.int x5), some (.int x6), some (.int x7), some (.int x8), some (.int x9), some (.int x10), some (.int x11), some (.int x12), some (.int y0)]) cx (by decide) rfl dX10_drawn_167 ?_
  refine z_iload cx rfl dX10_drawn_169 ?_
  refine z_aload_n cx rfl rfl dX10_drawn_171 ?_
  refine z_iload cx rfl dX10_drawn_172 ?_
  refine z_iload cx rfl dX10_drawn_174 ?_
  refine z_iload cx rfl dX10_drawn_176 ?_
  refine z_aload_n cx rfl rfl dX10_drawn_178 ?_
  refine q_getF (k := 0) (n := 31) (r := 31) cx z_cl10 (j := 9) (by decide) tb_46 rfl (by decide) rfl rfl rfl dX10_drawn_179 ?_
  refine q_getI (k := 31) (n := 3101) cx z_cl3 (j := 1) (by decide) tb_847 rfl (by decide) rfl rfl rfl dX10_drawn_182 ?_
  obtain ⟨v1, S2, e3, h⟩ := g_bd_ex h
  refine q_cvi (As := [.int x5, .int x6, .int y0, .int (S.1 3101)]) cx mo_X10_costOf mv_X10_costOf z_cl10 rfl tb_864 (by decide) rfl (by decide) rfl rfl (Nat.le_of_ble_eq_true rfl) dX10_drawn_185 (c_X10_costOf x5 x6 y0 (S.1 3101) _ e3) ?_
  refine z_iadd cx dX10_drawn_188 ?_
  refine z_istore (L' := [some (.ref (z_ad g 0)), none, some (.int x2), none, some (.int x4), some (.int x5), some (.int x6), some (.int x7), some (.int x8), some (.int x9), some (.int (x10 + v1)), some (.int x11), some (.int x12), some (.int y0)]) cx (by decide) rfl dX10_drawn_189 ?_
  refine z_iload cx rfl dX10_drawn_191 ?_
  refine z_iload cx rfl dX10_drawn_193 ?_
  refine z_if_eq (tgt := 212) cx (by decide) dX10_drawn_195 (fun c4 => ?_) (fun c4 => ?_)
  · have h := g_t c4 h
    exact q_weak (z_wk_s (z_wk_n (z_wk_s (z_wk_n (z_wk_s (z_wk_s (z_wk_s (z_wk_s (z_wk_s (z_wk_s (z_wk_s (z_wk_n (z_wk_s (z_wk_n (z_wk_0))))))))))))))) (t_X10_drawn_212 n cx ce k123 hk123 x2 x4 x5 x6 x7 x8 x9 (x10 + v1) x12 x11 S2 h)
  · have h := g_f c4 h
    refine z_aload_n cx rfl rfl dX10_drawn_198 ?_
    refine q_getF (k := 0) (n := 31) (r := 31) cx z_cl10 (j := 9) (by decide) tb_46 rfl (by decide) rfl rfl rfl dX10_drawn_199 ?_
    refine q_getI (k := 31) (n := 3101) cx z_cl3 (j := 1) (by decide) tb_847 rfl (by decide) rfl rfl rfl dX10_drawn_202 ?_
    refine z_if_ne (tgt := 212) cx (by decide) dX10_drawn_205 (fun c5 => ?_) (fun c5 => ?_)
    · have h := g_f c5 h
      exact q_weak (z_wk_s (z_wk_n (z_wk_s (z_wk_n (z_wk_s (z_wk_s (z_wk_s (z_wk_s (z_wk_s (z_wk_s (z_wk_s (z_wk_n (z_wk_s (z_wk_n (z_wk_0))))))))))))))) (t_X10_drawn_212 n cx ce k123 hk123 x2 x4 x5 x6 x7 x8 x9 (x10 + v1) x12 x11 S2 h)
    · have h := g_t c5 h
      refine z_iconst (v := 1) cx (by decide +kernel) dX10_drawn_208 ?_
      refine z_goto (tgt := 213) cx (by decide) dX10_drawn_209 ?_
      exact q_weak (z_wk_s (z_wk_n (z_wk_s (z_wk_n (z_wk_s (z_wk_s (z_wk_s (z_wk_s (z_wk_s (z_wk_s (z_wk_s (z_wk_n (z_wk_s (z_wk_n (z_wk_0))))))))))))))) (t_X10_drawn_213 n cx ce k123 hk123 x2 x4 x5 x6 x7 x8 x9 (x10 + v1) x12 1 x11 S2 h)
def f_X10_drawn_123 (n : Nat) : Nat → Int32 → Int32 → Int32 → Int32 → Int32 → Int32 → Int32 → Int32 → Int32 → Int32 → z_Stt → Option (Int32 × z_Stt)
  | 0, _, _, _, _, _, _, _, _, _, _, _ => none
  | m + 1, x2, x4, x5, x6, x7, x8, x9, x10, x11, x12, S =>
    if x2 ≤ x12 then
      if x4 = 0 then
        some (x10, S)
      else
        some (x11, S)
    else
      g_bd (f_X10_traceOf x5 S) fun v3 S4 =>
      g_bd (f_X10_staleOf x5 S4) fun v6 S7 =>
      g_bd (f_X3_drawMorning x7 v3 v6 S7) fun v9 S10 =>
      if S10.1 3102 = 0 then
        f_X10_drawn_167 n (f_X10_drawn_123 n m) x2 x4 x5 x6 x7 x8 x9 x10 x11 x12 x9 S10
      else
        f_X10_drawn_167 n (f_X10_drawn_123 n m) x2 x4 x5 x6 x7 x8 x9 x10 x11 x12 x8 S10
set_option maxHeartbeats 4000000 in
set_option maxRecDepth 100000 in
theorem t_X10_drawn_123 {g : z_G} {K : z_K} (n : Nat) {v : Int32} {S' : z_Stt} (cx : z_C g M_X10_drawn 69 K) (ce : z_E' g M_X10_drawn (z_P g (some (.int v)) S') K) : ∀ (m : Nat) (x2 : Int32) (x4 : Int32) (x5 : Int32) (x6 : Int32) (x7 : Int32) (x8 : Int32) (x9 : Int32) (x10 : Int32) (x11 : Int32) (x12 : Int32) (S : z_Stt) (h : f_X10_drawn_123 n m x2 x4 x5 x6 x7 x8 x9 x10 x11 x12 S = some (v, S')), z_At g M_X10_drawn K 123 [some (.ref (z_ad g 0)), none, some (.int x2), none, some (.int x4), some (.int x5), some (.int x6), some (.int x7), some (.int x8), some (.int x9), some (.int x10), some (.int x11), some (.int x12), none] [] (hp g S) := by
  intro m
  induction m with
  | zero => intro x2 x4 x5 x6 x7 x8 x9 x10 x11 x12 S h; simp [f_X10_drawn_123] at h
  | succ m ih =>
    intro x2 x4 x5 x6 x7 x8 x9 x10 x11 x12 S h
    rw [f_X10_drawn_123] at h
    refine z_iload cx rfl dX10_drawn_123 ?_
    refine z_iload_n cx rfl rfl dX10_drawn_125 ?_
    refine z_icmp_ge (tgt := 222) cx (by decide) dX10_drawn_126 (fun c1 => ?_) (fun c1 => ?_)
    · have h := g_t c1 h
      refine z_iload cx rfl dX10_drawn_222 ?_
      refine z_if_ne (tgt := 232) cx (by decide) dX10_drawn_224 (fun c2 => ?_) (fun c2 => ?_)
      · have h := g_f c2 h
        refine z_iload cx rfl dX10_drawn_232 ?_
        obtain ⟨rfl, rfl⟩ := g_some h
        exact z_ireturn cx ce rfl ⟨rfl, rfl⟩ dX10_drawn_234
      · have h := g_t c2 h
        refine z_iload cx rfl dX10_drawn_227 ?_
        refine z_goto (tgt := 234) cx (by decide) dX10_drawn_229 ?_
        obtain ⟨rfl, rfl⟩ := g_some h
        exact z_ireturn cx ce rfl ⟨rfl, rfl⟩ dX10_drawn_234
    · have h := g_f c1 h
      refine z_aload_n cx rfl rfl dX10_drawn_129 ?_
      refine q_getF (k := 0) (n := 31) (r := 31) cx z_cl10 (j := 9) (by decide) tb_46 rfl (by decide) rfl rfl rfl dX10_drawn_130 ?_
      refine z_iload cx rfl dX10_drawn_133 ?_
      refine z_aload_n cx rfl rfl dX10_drawn_135 ?_
      refine z_iload cx rfl dX10_drawn_136 ?_
      obtain ⟨v3, S4, e5, h⟩ := g_bd_ex h
      refine q_cvi (As := [.int x5]) cx mo_X10_traceOf mv_X10_traceOf z_cl10 rfl tb_464 (by decide) rfl (by decide) rfl rfl (Nat.le_of_ble_eq_true rfl) dX10_drawn_138 (c_X10_traceOf x5 _ e5) ?_
      refine z_aload_n cx rfl rfl dX10_drawn_141 ?_
      refine z_iload cx rfl dX10_drawn_142 ?_
      obtain ⟨v6, S7, e8, h⟩ := g_bd_ex h
      refine q_cvi (As := [.int x5]) cx mo_X10_staleOf mv_X10_staleOf z_cl10 rfl tb_472 (by decide) rfl (by decide) rfl rfl (Nat.le_of_ble_eq_true rfl) dX10_drawn_144 (c_X10_staleOf x5 _ e8) ?_
      obtain ⟨v9, S10, e11, h⟩ := g_bd_ex h
      refine q_cvv (As := [.int x7, .int v3, .int v6]) cx mo_X3_drawMorning mv_X3_drawMorning z_cl3 rfl tb_855 (by decide) rfl (by decide) rfl rfl (Nat.le_of_ble_eq_true rfl) dX10_drawn_147 (c_X3_drawMorning x7 v3 v6 _ e11) ?_
      refine z_aload_n cx rfl rfl dX10_drawn_150 ?_
      refine q_getF (k := 0) (n := 31) (r := 31) cx z_cl10 (j := 9) (by decide) tb_46 rfl (by decide) rfl rfl rfl dX10_drawn_151 ?_
      refine q_getI (k := 31) (n := 3102) cx z_cl3 (j := 2) (by decide) tb_846 rfl (by decide) rfl rfl rfl dX10_drawn_154 ?_
      refine z_if_eq (tgt := 165) cx (by decide) dX10_drawn_157 (fun c12 => ?_) (fun c12 => ?_)
      · have h := g_t c12 h
        refine z_iload cx rfl dX10_drawn_165 ?_
        exact q_weak (z_wk_s (z_wk_n (z_wk_s (z_wk_n (z_wk_s (z_wk_s (z_wk_s (z_wk_s (z_wk_s (z_wk_s (z_wk_s (z_wk_s (z_wk_s (z_wk_n (z_wk_0))))))))))))))) (t_X10_drawn_167 n cx ce (f_X10_drawn_123 n m) ih x2 x4 x5 x6 x7 x8 x9 x10 x11 x12 x9 S10 h)
      · have h := g_f c12 h
        refine z_iload cx rfl dX10_drawn_160 ?_
        refine z_goto (tgt := 167) cx (by decide) dX10_drawn_162 ?_
        exact q_weak (z_wk_s (z_wk_n (z_wk_s (z_wk_n (z_wk_s (z_wk_s (z_wk_s (z_wk_s (z_wk_s (z_wk_s (z_wk_s (z_wk_s (z_wk_s (z_wk_n (z_wk_0))))))))))))))) (t_X10_drawn_167 n cx ce (f_X10_drawn_123 n m) ih x2 x4 x5 x6 x7 x8 x9 x10 x11 x12 x8 S10 h)
def f_X10_drawn (n : Nat) (a0 : Int32) (a1 : Int32) (a2 : Int32) (a3 : Int32) (S : z_Stt) : Option (Int32 × z_Stt) :=
  if a1 < 1 then
    some ((-1), S)
  else
    if 60 < a1 then
      some ((-1), S)
    else
      if a2 < 0 then
        some ((-1), S)
      else
        g_bd (f_X10_isThing (a2 / 1000) S) fun v4 S5 =>
        if v4 = true then
          g_bd (f_X10_isWay (a2 % 10) S5) fun v8 S9 =>
          if v8 = true then
            g_bd (f_X10_within a3 1 S9) fun v12 S13 =>
            if v12 = true then
              g_bd (f_X9_ofThing 0 (a2 / 1000) S13) fun v16 S17 =>
              g_bd (f_X10_decides n (a2 % 10) (a2 / 1000) 1 ((a2 / 10) % 100) S17) fun v19 S20 =>
              g_bd (f_X10_decides n (a2 % 10) (a2 / 1000) 0 ((a2 / 10) % 100) S20) fun v22 S23 =>
              g_let (sI S23 3100 a0) fun S25 =>
              f_X10_drawn_123 n n a1 a3 (a2 / 1000) ((a2 / 10) % 100) v16 (bI v19) (bI v22) 0 0 0 S25
            else
              some ((-1), S13)
          else
            some ((-1), S9)
        else
          some ((-1), S5)
set_option maxHeartbeats 4000000 in
set_option maxRecDepth 100000 in
theorem t_X10_drawn {g : z_G} {K : z_K} (n : Nat) {v : Int32} {S' : z_Stt} (cx : z_C g M_X10_drawn 69 K) (ce : z_E' g M_X10_drawn (z_P g (some (.int v)) S') K) (a0 : Int32) (a1 : Int32) (a2 : Int32) (a3 : Int32) (S : z_Stt) (h : f_X10_drawn n a0 a1 a2 a3 S = some (v, S')) : z_At g M_X10_drawn K 0 [some (.ref (z_ad g 0)), some (.int a0), some (.int a1), some (.int a2), some (.int a3), none, none, none, none, none, none, none, none, none] [] (hp g S) := by
  unfold f_X10_drawn at h
  refine z_iload_n cx rfl rfl dX10_drawn_0 ?_
  refine z_iconst (v := 1) cx (by decide +kernel) dX10_drawn_1 ?_
  refine z_icmp_lt (tgt := 46) cx (by decide) dX10_drawn_2 (fun c1 => ?_) (fun c1 => ?_)
  · have h := g_t c1 h
    refine z_iconst (v := (-1)) cx (by decide +kernel) dX10_drawn_46 ?_
    obtain ⟨rfl, rfl⟩ := g_some h
    exact z_ireturn cx ce rfl ⟨rfl, rfl⟩ dX10_drawn_47
  · have h := g_f c1 h
    refine z_iload_n cx rfl rfl dX10_drawn_5 ?_
    refine z_bipush (v := 60) cx (by decide +kernel) dX10_drawn_6 ?_
    refine z_icmp_gt (tgt := 46) cx (by decide) dX10_drawn_8 (fun c2 => ?_) (fun c2 => ?_)
    · have h := g_t c2 h
      refine z_iconst (v := (-1)) cx (by decide +kernel) dX10_drawn_46 ?_
      obtain ⟨rfl, rfl⟩ := g_some h
      exact z_ireturn cx ce rfl ⟨rfl, rfl⟩ dX10_drawn_47
    · have h := g_f c2 h
      refine z_iload_n cx rfl rfl dX10_drawn_11 ?_
      refine z_if_lt (tgt := 46) cx (by decide) dX10_drawn_12 (fun c3 => ?_) (fun c3 => ?_)
      · have h := g_t c3 h
        refine z_iconst (v := (-1)) cx (by decide +kernel) dX10_drawn_46 ?_
        obtain ⟨rfl, rfl⟩ := g_some h
        exact z_ireturn cx ce rfl ⟨rfl, rfl⟩ dX10_drawn_47
      · have h := g_f c3 h
        refine z_aload_n cx rfl rfl dX10_drawn_15 ?_
        refine z_iload_n cx rfl rfl dX10_drawn_16 ?_
        refine z_sipush (v := 1000) cx (by decide +kernel) dX10_drawn_17 ?_
        refine z_idiv cx (by decide +kernel) dX10_drawn_20 ?_
        obtain ⟨v4, S5, e6, h⟩ := g_bd_ex h
        refine q_cvi (As := [.int (a2 / 1000)]) cx mo_X10_isThing mv_X10_isThing z_cl10 rfl tb_303 (by decide) rfl (by decide) rfl rfl (Nat.le_of_ble_eq_true rfl) dX10_drawn_21 (c_X10_isThing (a2 / 1000) _ e6) ?_
        refine q_ifb_eq (tgt := 46) cx (by decide) dX10_drawn_24 (fun c7 => ?_) (fun c7 => ?_)
        · have h := g_f (Bool.eq_false_iff.mp c7) h
          refine z_iconst (v := (-1)) cx (by decide +kernel) dX10_drawn_46 ?_
          obtain ⟨rfl, rfl⟩ := g_some h
          exact z_ireturn cx ce rfl ⟨rfl, rfl⟩ dX10_drawn_47
        · have h := g_t c7 h
          refine z_iload_n cx rfl rfl dX10_drawn_27 ?_
          refine z_bipush (v := 10) cx (by decide +kernel) dX10_drawn_28 ?_
          refine z_irem cx (by decide +kernel) dX10_drawn_30 ?_
          obtain ⟨v8, S9, e10, h⟩ := g_bd_ex h
          refine q_csi (As := [.int (a2 % 10)]) cx mo_X10_isWay ms_X10_isWay tb_848 (by decide) rfl rfl (Nat.le_of_ble_eq_true rfl) dX10_drawn_31 (c_X10_isWay (a2 % 10) _ e10) ?_
          refine q_ifb_eq (tgt := 46) cx (by decide) dX10_drawn_34 (fun c11 => ?_) (fun c11 => ?_)
          · have h := g_f (Bool.eq_false_iff.mp c11) h
            refine z_iconst (v := (-1)) cx (by decide +kernel) dX10_drawn_46 ?_
            obtain ⟨rfl, rfl⟩ := g_some h
            exact z_ireturn cx ce rfl ⟨rfl, rfl⟩ dX10_drawn_47
          · have h := g_t c11 h
            refine z_iload cx rfl dX10_drawn_37 ?_
            refine z_iconst (v := 1) cx (by decide +kernel) dX10_drawn_39 ?_
            obtain ⟨v12, S13, e14, h⟩ := g_bd_ex h
            refine q_csi (As := [.int a3, .int 1]) cx mo_X10_within ms_X10_within tb_171 (by decide) rfl rfl (Nat.le_of_ble_eq_true rfl) dX10_drawn_40 (c_X10_within a3 1 _ e14) ?_
            refine q_ifb_ne (tgt := 48) cx (by decide) dX10_drawn_43 (fun c15 => ?_) (fun c15 => ?_)
            · have h := g_t c15 h
              refine z_iload_n cx rfl rfl dX10_drawn_48 ?_
              refine z_sipush (v := 1000) cx (by decide +kernel) dX10_drawn_49 ?_
              refine z_idiv cx (by decide +kernel) dX10_drawn_52 ?_
              refine z_istore (L' := [some (.ref (z_ad g 0)), some (.int a0), some (.int a1), some (.int a2), some (.int a3), some (.int (a2 / 1000)), none, none, none, none, none, none, none, none]) cx (by decide) rfl dX10_drawn_53 ?_
              refine z_iload_n cx rfl rfl dX10_drawn_55 ?_
              refine z_bipush (v := 10) cx (by decide +kernel) dX10_drawn_56 ?_
              refine z_idiv cx (by decide +kernel) dX10_drawn_58 ?_
              refine z_bipush (v := 100) cx (by decide +kernel) dX10_drawn_59 ?_
              refine z_irem cx (by decide +kernel) dX10_drawn_61 ?_
              refine z_istore (L' := [some (.ref (z_ad g 0)), some (.int a0), some (.int a1), some (.int a2), some (.int a3), some (.int (a2 / 1000)), some (.int ((a2 / 10) % 100)), none, none, none, none, none, none, none]) cx (by decide) rfl dX10_drawn_62 ?_
              refine z_aload_n cx rfl rfl dX10_drawn_64 ?_
              refine q_getF (k := 0) (n := 1) (r := 1) cx z_cl10 (j := 0) (by decide) tb_16 rfl (by decide) rfl rfl rfl dX10_drawn_65 ?_
              refine z_iconst (v := 0) cx (by decide +kernel) dX10_drawn_68 ?_
              refine z_iload cx rfl dX10_drawn_69 ?_
              obtain ⟨v16, S17, e18, h⟩ := g_bd_ex h
              refine q_cvi (As := [.int 0, .int (a2 / 1000)]) cx mo_X9_ofThing mv_X9_ofThing z_cl9 rfl tb_449 (by decide) rfl (by decide) rfl rfl (Nat.le_of_ble_eq_true rfl) dX10_drawn_71 (c_X9_ofThing 0 (a2 / 1000) _ e18) ?_
              refine z_istore (L' := [some (.ref (z_ad g 0)), some (.int a0), some (.int a1), some (.int a2), some (.int a3), some (.int (a2 / 1000)), some (.int ((a2 / 10) % 100)), some (.int v16), none, none, none, none, none, none]) cx (by decide) rfl dX10_drawn_74 ?_
              refine z_aload_n cx rfl rfl dX10_drawn_76 ?_
              refine z_iload_n cx rfl rfl dX10_drawn_77 ?_
              refine z_bipush (v := 10) cx (by decide +kernel) dX10_drawn_78 ?_
              refine z_irem cx (by decide +kernel) dX10_drawn_80 ?_
              refine z_iload cx rfl dX10_drawn_81 ?_
              refine z_iconst (v := 1) cx (by decide +kernel) dX10_drawn_83 ?_
              refine z_iload cx rfl dX10_drawn_84 ?_
              obtain ⟨v19, S20, e21, h⟩ := g_bd_ex h
              refine q_cvi (As := [.int (a2 % 10), .int (a2 / 1000), .int 1, .int ((a2 / 10) % 100)]) cx mo_X10_decides mv_X10_decides z_cl10 rfl tb_851 (by decide) rfl (by decide) rfl rfl (Nat.le_of_ble_eq_true rfl) dX10_drawn_86 (c_X10_decides (a2 % 10) (a2 / 1000) 1 ((a2 / 10) % 100) _ e21) ?_
              refine z_istore (L' := [some (.ref (z_ad g 0)), some (.int a0), some (.int a1), some (.int a2), some (.int a3), some (.int (a2 / 1000)), some (.int ((a2 / 10) % 100)), some (.int v16), some (.int (bI v19)), none, none, none, none, none]) cx (by decide) rfl dX10_drawn_89 ?_
              refine z_aload_n cx rfl rfl dX10_drawn_91 ?_
              refine z_iload_n cx rfl rfl dX10_drawn_92 ?_
              refine z_bipush (v := 10) cx (by decide +kernel) dX10_drawn_93 ?_
              refine z_irem cx (by decide +kernel) dX10_drawn_95 ?_
              refine z_iload cx rfl dX10_drawn_96 ?_
              refine z_iconst (v := 0) cx (by decide +kernel) dX10_drawn_98 ?_
              refine z_iload cx rfl dX10_drawn_99 ?_
              obtain ⟨v22, S23, e24, h⟩ := g_bd_ex h
              refine q_cvi (As := [.int (a2 % 10), .int (a2 / 1000), .int 0, .int ((a2 / 10) % 100)]) cx mo_X10_decides mv_X10_decides z_cl10 rfl tb_851 (by decide) rfl (by decide) rfl rfl (Nat.le_of_ble_eq_true rfl) dX10_drawn_101 (c_X10_decides (a2 % 10) (a2 / 1000) 0 ((a2 / 10) % 100) _ e24) ?_
              refine z_istore (L' := [some (.ref (z_ad g 0)), some (.int a0), some (.int a1), some (.int a2), some (.int a3), some (.int (a2 / 1000)), some (.int ((a2 / 10) % 100)), some (.int v16), some (.int (bI v19)), some (.int (bI v22)), none, none, none, none]) cx (by decide) rfl dX10_drawn_104 ?_
              refine z_iconst (v := 0) cx (by decide +kernel) dX10_drawn_106 ?_
              refine z_istore (L' := [some (.ref (z_ad g 0)), some (.int a0), some (.int a1), some (.int a2), some (.int a3), some (.int (a2 / 1000)), some (.int ((a2 / 10) % 100)), some (.int v16), some (.int (bI v19)), some (.int (bI v22)), some (.int 0), none, none, none]) cx (by decide) rfl dX10_drawn_107 ?_
              refine z_iconst (v := 0) cx (by decide +kernel) dX10_drawn_109 ?_
              refine z_istore (L' := [some (.ref (z_ad g 0)), some (.int a0), some (.int a1), some (.int a2), some (.int a3), some (.int (a2 / 1000)), some (.int ((a2 / 10) % 100)), some (.int v16), some (.int (bI v19)), some (.int (bI v22)), some (.int 0), some (.int 0), none, none]) cx (by decide) rfl dX10_drawn_110 ?_
              refine z_aload_n cx rfl rfl dX10_drawn_112 ?_
              refine q_getF (k := 0) (n := 31) (r := 31) cx z_cl10 (j := 9) (by decide) tb_46 rfl (by decide) rfl rfl rfl dX10_drawn_113 ?_
              refine z_iload_n cx rfl rfl dX10_drawn_116 ?_
              refine q_putI (k := 31) (n := 3100) cx z_cl3 (j := 0) (by decide) tb_845 rfl rfl rfl (by decide) rfl rfl rfl (by decide) (by decide) dX10_drawn_117 ?_
              obtain ⟨S25, e26, h⟩ := g_let_ex h
              rw [← e26]
              refine z_iconst (v := 0) cx (by decide +kernel) dX10_drawn_120 ?_
              refine z_istore (L' := [some (.ref (z_ad g 0)), some (.int a0), some (.int a1), some (.int a2), some (.int a3), some (.int (a2 / 1000)), some (.int ((a2 / 10) % 100)), some (.int v16), some (.int (bI v19)), some (.int (bI v22)), some (.int 0), some (.int 0), some (.int 0), none]) cx (by decide) rfl dX10_drawn_121 ?_
              exact q_weak (z_wk_s (z_wk_n (z_wk_s (z_wk_n (z_wk_s (z_wk_s (z_wk_s (z_wk_s (z_wk_s (z_wk_s (z_wk_s (z_wk_s (z_wk_s (z_wk_n (z_wk_0))))))))))))))) (t_X10_drawn_123 n cx ce n a1 a3 (a2 / 1000) ((a2 / 10) % 100) v16 (bI v19) (bI v22) 0 0 0 S25 h)
            · have h := g_f (Bool.eq_false_iff.mp c15) h
              refine z_iconst (v := (-1)) cx (by decide +kernel) dX10_drawn_46 ?_
              obtain ⟨rfl, rfl⟩ := g_some h
              exact z_ireturn cx ce rfl ⟨rfl, rfl⟩ dX10_drawn_47
theorem c_X10_drawn {g : z_G} {n : Nat} (a0 : Int32) (a1 : Int32) (a2 : Int32) (a3 : Int32) (S : z_Stt) {v : Int32} {S' : z_Stt} (h : f_X10_drawn n a0 a1 a2 a3 S = some (v, S')) : z_Ct g M_X10_drawn 69 [.ref (z_ad g 0), .int a0, .int a1, .int a2, .int a3] (hp g S) (z_P g (some (.int v)) S') :=
  z_Ct.of (by decide +kernel) rfl (Nat.le_of_ble_eq_true rfl) (fun K cx ce => q_weak (L' := [some (.ref (z_ad g 0)), some (.int a0), some (.int a1), some (.int a2), some (.int a3), none, none, none, none, none, none, none, none, none]) (z_wk_s (z_wk_s (z_wk_s (z_wk_s (z_wk_s (z_wk_e (z_wk_e (z_wk_e (z_wk_e (z_wk_e (z_wk_e (z_wk_e (z_wk_e (z_wk_e (z_wk_0))))))))))))))) (t_X10_drawn n cx ce a0 a1 a2 a3 S h))
abbrev M_X10_gravelRefusal : z_M := (RX10, yX10_gravelRefusal, cX10_gravelRefusal, 3, some .int)
theorem mo_X10_gravelRefusal : z_mo M_X10_gravelRefusal 1 := ⟨tb_893, tb_2, rfl, ⟨by decide +kernel, by decide +kernel⟩, by decide +kernel, by decide⟩
theorem ms_X10_gravelRefusal : z_ms M_X10_gravelRefusal := tb_892
def f_X10_gravelRefusal_61 (n : Nat) (k26 : Nat → Int32 → z_Stt → Option (Int32 × z_Stt)) (x0 : Nat) (x2 : Int32) (y0 : Int32) (y1 : Int64) (S : z_Stt) : Option (Int32 × z_Stt) :=
  if lg_cmp y1 (Int32.toInt64 y0) ≤ 0 then
    k26 x0 (x2 + 1) S
  else
    some ((-5), S)
set_option maxHeartbeats 4000000 in
set_option maxRecDepth 100000 in
theorem t_X10_gravelRefusal_61 {g : z_G} {K : z_K} (n : Nat) {v : Int32} {S' : z_Stt} (cx : z_C g M_X10_gravelRefusal 2 K) (ce : z_E' g M_X10_gravelRefusal (z_P g (some (.int v)) S') K) (k26 : Nat → Int32 → z_Stt → Option (Int32 × z_Stt)) (hk26 : ∀ (x0 : Nat) (x2 : Int32) (S : z_Stt) (wx0 : wp8 x0), k26 x0 x2 S = some (v, S') → z_At g M_X10_gravelRefusal K 26 [some (.ref (z_ad g x0)), none, some (.int x2)] [] (hp g S)) (x0 : Nat) (x2 : Int32) (y0 : Int32) (y1 : Int64) (S : z_Stt) (wx0 : wp8 x0) (h : f_X10_gravelRefusal_61 n k26 x0 x2 y0 y1 S = some (v, S')) : z_At g M_X10_gravelRefusal K 61 [some (.ref (z_ad g x0)), none, some (.int x2)] [.int y0, .long y1] (hp g S) := by
  unfold f_X10_gravelRefusal_61 at h
  refine z_i2l cx dX10_gravelRefusal_61 ?_
  refine z_lcmp cx dX10_gravelRefusal_62 ?_
  refine z_if_le (tgt := 69) cx (by decide) dX10_gravelRefusal_63 (fun c1 => ?_) (fun c1 => ?_)
  · have h := g_t c1 h
    refine z_iinc (c := 1) (L' := [some (.ref (z_ad g x0)), none, some (.int (x2 + 1))]) cx rfl (by decide +kernel) (by decide) rfl dX10_gravelRefusal_69 ?_
    refine z_goto (tgt := 26) cx (by decide) dX10_gravelRefusal_72 ?_
    exact q_weak (z_wk_s (z_wk_n (z_wk_s (z_wk_0)))) (hk26 x0 (x2 + 1) S wx0 h)
  · have h := g_f c1 h
    refine z_bipush (v := (-5)) cx (by decide +kernel) dX10_gravelRefusal_66 ?_
    obtain ⟨rfl, rfl⟩ := g_some h
    exact z_ireturn cx ce rfl ⟨rfl, rfl⟩ dX10_gravelRefusal_68
def f_X10_gravelRefusal_26 (n : Nat) : Nat → Nat → Int32 → z_Stt → Option (Int32 × z_Stt)
  | 0, _, _, _ => none
  | m + 1, x0, x2, S =>
    if S.1 (100 * x0 + 3) ≤ x2 then
      some (0, S)
    else
      g_bd (f_X8_at x0 x2 S) fun v2 S3 =>
      if lg_cmp v2 0 < 0 then
        some ((-5), S3)
      else
        g_bd (f_X8_at x0 x2 S3) fun v6 S7 =>
        if x2 % 2 = 0 then
          f_X10_gravelRefusal_61 n (f_X10_gravelRefusal_26 n m) x0 x2 1 v6 S7
        else
          f_X10_gravelRefusal_61 n (f_X10_gravelRefusal_26 n m) x0 x2 99 v6 S7
set_option maxHeartbeats 4000000 in
set_option maxRecDepth 100000 in
theorem t_X10_gravelRefusal_26 {g : z_G} {K : z_K} (n : Nat) {v : Int32} {S' : z_Stt} (cx : z_C g M_X10_gravelRefusal 2 K) (ce : z_E' g M_X10_gravelRefusal (z_P g (some (.int v)) S') K) : ∀ (m : Nat) (x0 : Nat) (x2 : Int32) (S : z_Stt) (wx0 : wp8 x0) (h : f_X10_gravelRefusal_26 n m x0 x2 S = some (v, S')), z_At g M_X10_gravelRefusal K 26 [some (.ref (z_ad g x0)), none, some (.int x2)] [] (hp g S) := by
  intro m
  induction m with
  | zero => intro x0 x2 S wx0 h; simp [f_X10_gravelRefusal_26] at h
  | succ m ih =>
    intro x0 x2 S wx0 h
    rw [f_X10_gravelRefusal_26] at h
    refine z_iload_n cx rfl rfl dX10_gravelRefusal_26 ?_
    refine z_aload_n cx rfl rfl dX10_gravelRefusal_27 ?_
    refine q_getI (k := x0) (n := 100 * x0 + 3) cx z_cl8 (j := 3) (by decide) tb_210 rfl wx0.1 wx0.2.1 rfl rfl dX10_gravelRefusal_28 ?_
    refine z_icmp_ge (tgt := 75) cx (by decide) dX10_gravelRefusal_31 (fun c1 => ?_) (fun c1 => ?_)
    · have h := g_t c1 h
      refine z_iconst (v := 0) cx (by decide +kernel) dX10_gravelRefusal_75 ?_
      obtain ⟨rfl, rfl⟩ := g_some h
      exact z_ireturn cx ce rfl ⟨rfl, rfl⟩ dX10_gravelRefusal_76
    · have h := g_f c1 h
      refine z_aload_n cx rfl rfl dX10_gravelRefusal_34 ?_
      refine z_iload_n cx rfl rfl dX10_gravelRefusal_35 ?_
      obtain ⟨v2, S3, e4, h⟩ := g_bd_ex h
      refine q_cvl (As := [.int x2]) cx mo_X8_at mv_X8_at z_cl8 rfl tb_211 (by decide) rfl wx0.1 wx0.2.1 rfl (Nat.le_of_ble_eq_true rfl) dX10_gravelRefusal_36 (c_X8_at x0 x2 _ wx0 e4) ?_
      refine z_lconst (v := 0) cx (by decide +kernel) dX10_gravelRefusal_39 ?_
      refine z_lcmp cx dX10_gravelRefusal_40 ?_
      refine z_if_lt (tgt := 66) cx (by decide) dX10_gravelRefusal_41 (fun c5 => ?_) (fun c5 => ?_)
      · have h := g_t c5 h
        refine z_bipush (v := (-5)) cx (by decide +kernel) dX10_gravelRefusal_66 ?_
        obtain ⟨rfl, rfl⟩ := g_some h
        exact z_ireturn cx ce rfl ⟨rfl, rfl⟩ dX10_gravelRefusal_68
      · have h := g_f c5 h
        refine z_aload_n cx rfl rfl dX10_gravelRefusal_44 ?_
        refine z_iload_n cx rfl rfl dX10_gravelRefusal_45 ?_
        obtain ⟨v6, S7, e8, h⟩ := g_bd_ex h
        refine q_cvl (As := [.int x2]) cx mo_X8_at mv_X8_at z_cl8 rfl tb_211 (by decide) rfl wx0.1 wx0.2.1 rfl (Nat.le_of_ble_eq_true rfl) dX10_gravelRefusal_46 (c_X8_at x0 x2 _ wx0 e8) ?_
        refine z_iload_n cx rfl rfl dX10_gravelRefusal_49 ?_
        refine z_iconst (v := 2) cx (by decide +kernel) dX10_gravelRefusal_50 ?_
        refine z_irem cx (by decide +kernel) dX10_gravelRefusal_51 ?_
        refine z_if_ne (tgt := 59) cx (by decide) dX10_gravelRefusal_52 (fun c9 => ?_) (fun c9 => ?_)
        · have h := g_f c9 h
          refine z_bipush (v := 99) cx (by decide +kernel) dX10_gravelRefusal_59 ?_
          exact q_weak (z_wk_s (z_wk_n (z_wk_s (z_wk_0)))) (t_X10_gravelRefusal_61 n cx ce (f_X10_gravelRefusal_26 n m) ih x0 x2 99 v6 S7 wx0 h)
        · have h := g_t c9 h
          refine z_iconst (v := 1) cx (by decide +kernel) dX10_gravelRefusal_55 ?_
          refine z_goto (tgt := 61) cx (by decide) dX10_gravelRefusal_56 ?_
          exact q_weak (z_wk_s (z_wk_n (z_wk_s (z_wk_0)))) (t_X10_gravelRefusal_61 n cx ce (f_X10_gravelRefusal_26 n m) ih x0 x2 1 v6 S7 wx0 h)
def f_X10_gravelRefusal (n : Nat) (a0 : Nat) (S : z_Stt) : Option (Int32 × z_Stt) :=
  g_bd (f_X8_refusal a0 0 S) fun v1 S2 =>
  if v1 = 0 then
    if (S2.1 (100 * a0 + 3)) % 2 = 0 then
      f_X10_gravelRefusal_26 n n a0 0 S2
    else
      some ((-5), S2)
  else
    some (v1, S2)
set_option maxHeartbeats 4000000 in
set_option maxRecDepth 100000 in
theorem t_X10_gravelRefusal {g : z_G} {K : z_K} (n : Nat) {v : Int32} {S' : z_Stt} (cx : z_C g M_X10_gravelRefusal 2 K) (ce : z_E' g M_X10_gravelRefusal (z_P g (some (.int v)) S') K) (a0 : Nat) (S : z_Stt) (wa0 : wp8 a0) (h : f_X10_gravelRefusal n a0 S = some (v, S')) : z_At g M_X10_gravelRefusal K 0 [some (.ref (z_ad g a0)), none, none] [] (hp g S) := by
  unfold f_X10_gravelRefusal at h
  refine z_aload_n cx rfl rfl dX10_gravelRefusal_0 ?_
  refine z_iconst (v := 0) cx (by decide +kernel) dX10_gravelRefusal_1 ?_
  obtain ⟨v1, S2, e3, h⟩ := g_bd_ex h
  refine q_cvi (As := [.int 0]) cx mo_X8_refusal mv_X8_refusal z_cl8 rfl tb_782 (by decide) rfl wa0.1 wa0.2.1 rfl (Nat.le_of_ble_eq_true rfl) dX10_gravelRefusal_2 (c_X8_refusal a0 0 _ wa0 e3) ?_
  refine z_istore_n (L' := [some (.ref (z_ad g a0)), some (.int v1), none]) cx rfl (by decide) rfl dX10_gravelRefusal_5 ?_
  refine z_iload_n cx rfl rfl dX10_gravelRefusal_6 ?_
  refine z_if_eq (tgt := 12) cx (by decide) dX10_gravelRefusal_7 (fun c4 => ?_) (fun c4 => ?_)
  · have h := g_t c4 h
    refine z_aload_n cx rfl rfl dX10_gravelRefusal_12 ?_
    refine q_getI (k := a0) (n := 100 * a0 + 3) cx z_cl8 (j := 3) (by decide) tb_210 rfl wa0.1 wa0.2.1 rfl rfl dX10_gravelRefusal_13 ?_
    refine z_iconst (v := 2) cx (by decide +kernel) dX10_gravelRefusal_16 ?_
    refine z_irem cx (by decide +kernel) dX10_gravelRefusal_17 ?_
    refine z_if_eq (tgt := 24) cx (by decide) dX10_gravelRefusal_18 (fun c5 => ?_) (fun c5 => ?_)
    · have h := g_t c5 h
      refine z_iconst (v := 0) cx (by decide +kernel) dX10_gravelRefusal_24 ?_
      refine z_istore_n (L' := [some (.ref (z_ad g a0)), some (.int v1), some (.int 0)]) cx rfl (by decide) rfl dX10_gravelRefusal_25 ?_
      exact q_weak (z_wk_s (z_wk_n (z_wk_s (z_wk_0)))) (t_X10_gravelRefusal_26 n cx ce n a0 0 S2 wa0 h)
    · have h := g_f c5 h
      refine z_bipush (v := (-5)) cx (by decide +kernel) dX10_gravelRefusal_21 ?_
      obtain ⟨rfl, rfl⟩ := g_some h
      exact z_ireturn cx ce rfl ⟨rfl, rfl⟩ dX10_gravelRefusal_23
  · have h := g_f c4 h
    refine z_iload_n cx rfl rfl dX10_gravelRefusal_10 ?_
    obtain ⟨rfl, rfl⟩ := g_some h
    exact z_ireturn cx ce rfl ⟨rfl, rfl⟩ dX10_gravelRefusal_11
theorem c_X10_gravelRefusal {g : z_G} {n : Nat} (a0 : Nat) (S : z_Stt) {v : Int32} {S' : z_Stt} (wa0 : wp8 a0) (h : f_X10_gravelRefusal n a0 S = some (v, S')) : z_Ct g M_X10_gravelRefusal 2 [.ref (z_ad g a0)] (hp g S) (z_P g (some (.int v)) S') :=
  z_Ct.of (by decide +kernel) rfl (Nat.le_of_ble_eq_true rfl) (fun K cx ce => q_weak (L' := [some (.ref (z_ad g a0)), none, none]) (z_wk_s (z_wk_e (z_wk_e (z_wk_0)))) (t_X10_gravelRefusal n cx ce a0 S wa0 h))
abbrev M_X10_firstOtherwise : z_M := (RX10, yX10_firstOtherwise, cX10_firstOtherwise, 6, some .int)
theorem mo_X10_firstOtherwise : z_mo M_X10_firstOtherwise 3 := ⟨tb_897, tb_2, rfl, ⟨by decide +kernel, by decide +kernel⟩, by decide +kernel, by decide⟩
theorem mv_X10_firstOtherwise : z_mv M_X10_firstOtherwise := ⟨tb_895, tb_896⟩
def f_X10_firstOtherwise_56 (n : Nat) (k3 : Nat → Int32 → Int32 → Int32 → z_Stt → Option (Int32 × z_Stt)) (x1 : Nat) (x2 : Int32) (x3 : Int32) (x4 : Int32) (y0 : Int32) (y1 : Int32) (S : z_Stt) : Option (Int32 × z_Stt) :=
  if y1 = y0 then
    k3 x1 x2 x3 (x4 + 2) S
  else
    some (x4 / 2, S)
set_option maxHeartbeats 4000000 in
set_option maxRecDepth 100000 in
theorem t_X10_firstOtherwise_56 {g : z_G} {K : z_K} (n : Nat) {v : Int32} {S' : z_Stt} (cx : z_C g M_X10_firstOtherwise 69 K) (ce : z_E' g M_X10_firstOtherwise (z_P g (some (.int v)) S') K) (k3 : Nat → Int32 → Int32 → Int32 → z_Stt → Option (Int32 × z_Stt)) (hk3 : ∀ (x1 : Nat) (x2 : Int32) (x3 : Int32) (x4 : Int32) (S : z_Stt) (wx1 : wp8 x1), k3 x1 x2 x3 x4 S = some (v, S') → z_At g M_X10_firstOtherwise K 3 [some (.ref (z_ad g 0)), some (.ref (z_ad g x1)), some (.int x2), some (.int x3), some (.int x4), none] [] (hp g S)) (x1 : Nat) (x2 : Int32) (x3 : Int32) (x4 : Int32) (y0 : Int32) (y1 : Int32) (S : z_Stt) (wx1 : wp8 x1) (h : f_X10_firstOtherwise_56 n k3 x1 x2 x3 x4 y0 y1 S = some (v, S')) : z_At g M_X10_firstOtherwise K 56 [some (.ref (z_ad g 0)), some (.ref (z_ad g x1)), some (.int x2), some (.int x3), some (.int x4), none] [.int y0, .int y1] (hp g S) := by
  unfold f_X10_firstOtherwise_56 at h
  refine z_icmp_eq (tgt := 64) cx (by decide) dX10_firstOtherwise_56 (fun c1 => ?_) (fun c1 => ?_)
  · have h := g_t c1 h
    refine z_iinc (c := 2) (L' := [some (.ref (z_ad g 0)), some (.ref (z_ad g x1)), some (.int x2), some (.int x3), some (.int (x4 + 2)), none]) cx rfl (by decide +kernel) (by decide) rfl dX10_firstOtherwise_64 ?_
    refine z_goto (tgt := 3) cx (by decide) dX10_firstOtherwise_67 ?_
    exact q_weak (z_wk_s (z_wk_s (z_wk_s (z_wk_s (z_wk_s (z_wk_n (z_wk_0))))))) (hk3 x1 x2 x3 (x4 + 2) S wx1 h)
  · have h := g_f c1 h
    refine z_iload cx rfl dX10_firstOtherwise_59 ?_
    refine z_iconst (v := 2) cx (by decide +kernel) dX10_firstOtherwise_61 ?_
    refine z_idiv cx (by decide +kernel) dX10_firstOtherwise_62 ?_
    obtain ⟨rfl, rfl⟩ := g_some h
    exact z_ireturn cx ce rfl ⟨rfl, rfl⟩ dX10_firstOtherwise_63
def f_X10_firstOtherwise_3 (n : Nat) : Nat → Nat → Int32 → Int32 → Int32 → z_Stt → Option (Int32 × z_Stt)
  | 0, _, _, _, _, _ => none
  | m + 1, x1, x2, x3, x4, S =>
    if S.1 (100 * x1 + 3) ≤ x4 + 1 then
      some ((-1), S)
    else
      g_bd (f_X8_at x1 (x4 + 1) S) fun v2 S3 =>
      g_bd (f_X10_decides n x3 (x2 / 10) (x2 % 10) (Int64.toInt32 v2) S3) fun v5 S6 =>
      g_bd (f_X8_at x1 x4 S6) fun v8 S9 =>
      if lg_cmp v8 1 = 0 then
        f_X10_firstOtherwise_56 n (f_X10_firstOtherwise_3 n m) x1 x2 x3 x4 1 (bI v5) S9
      else
        f_X10_firstOtherwise_56 n (f_X10_firstOtherwise_3 n m) x1 x2 x3 x4 0 (bI v5) S9
set_option maxHeartbeats 4000000 in
set_option maxRecDepth 100000 in
theorem t_X10_firstOtherwise_3 {g : z_G} {K : z_K} (n : Nat) {v : Int32} {S' : z_Stt} (cx : z_C g M_X10_firstOtherwise 69 K) (ce : z_E' g M_X10_firstOtherwise (z_P g (some (.int v)) S') K) : ∀ (m : Nat) (x1 : Nat) (x2 : Int32) (x3 : Int32) (x4 : Int32) (S : z_Stt) (wx1 : wp8 x1) (h : f_X10_firstOtherwise_3 n m x1 x2 x3 x4 S = some (v, S')), z_At g M_X10_firstOtherwise K 3 [some (.ref (z_ad g 0)), some (.ref (z_ad g x1)), some (.int x2), some (.int x3), some (.int x4), none] [] (hp g S) := by
  intro m
  induction m with
  | zero => intro x1 x2 x3 x4 S wx1 h; simp [f_X10_firstOtherwise_3] at h
  | succ m ih =>
    intro x1 x2 x3 x4 S wx1 h
    rw [f_X10_firstOtherwise_3] at h
    refine z_iload cx rfl dX10_firstOtherwise_3 ?_
    refine z_iconst (v := 1) cx (by decide +kernel) dX10_firstOtherwise_5 ?_
    refine z_iadd cx dX10_firstOtherwise_6 ?_
    refine z_aload_n cx rfl rfl dX10_firstOtherwise_7 ?_
    refine q_getI (k := x1) (n := 100 * x1 + 3) cx z_cl8 (j := 3) (by decide) tb_210 rfl wx1.1 wx1.2.1 rfl rfl dX10_firstOtherwise_8 ?_
    refine z_icmp_ge (tgt := 70) cx (by decide) dX10_firstOtherwise_11 (fun c1 => ?_) (fun c1 => ?_)
    · have h := g_t c1 h
      refine z_iconst (v := (-1)) cx (by decide +kernel) dX10_firstOtherwise_70 ?_
      obtain ⟨rfl, rfl⟩ := g_some h
      exact z_ireturn cx ce rfl ⟨rfl, rfl⟩ dX10_firstOtherwise_71
    · have h := g_f c1 h
      refine z_aload_n cx rfl rfl dX10_firstOtherwise_14 ?_
      refine z_iload_n cx rfl rfl dX10_firstOtherwise_15 ?_
      refine z_iload_n cx rfl rfl dX10_firstOtherwise_16 ?_
      refine z_bipush (v := 10) cx (by decide +kernel) dX10_firstOtherwise_17 ?_
      refine z_idiv cx (by decide +kernel) dX10_firstOtherwise_19 ?_
      refine z_iload_n cx rfl rfl dX10_firstOtherwise_20 ?_
      refine z_bipush (v := 10) cx (by decide +kernel) dX10_firstOtherwise_21 ?_
      refine z_irem cx (by decide +kernel) dX10_firstOtherwise_23 ?_
      refine z_aload_n cx rfl rfl dX10_firstOtherwise_24 ?_
      refine z_iload cx rfl dX10_firstOtherwise_25 ?_
      refine z_iconst (v := 1) cx (by decide +kernel) dX10_firstOtherwise_27 ?_
      refine z_iadd cx dX10_firstOtherwise_28 ?_
      obtain ⟨v2, S3, e4, h⟩ := g_bd_ex h
      refine q_cvl (As := [.int (x4 + 1)]) cx mo_X8_at mv_X8_at z_cl8 rfl tb_211 (by decide) rfl wx1.1 wx1.2.1 rfl (Nat.le_of_ble_eq_true rfl) dX10_firstOtherwise_29 (c_X8_at x1 (x4 + 1) _ wx1 e4) ?_
      refine z_l2i cx dX10_firstOtherwise_32 ?_
      obtain ⟨v5, S6, e7, h⟩ := g_bd_ex h
      refine q_cvi (As := [.int x3, .int (x2 / 10), .int (x2 % 10), .int (Int64.toInt32 v2)]) cx mo_X10_decides mv_X10_decides z_cl10 rfl tb_851 (by decide) rfl (by decide) rfl rfl (Nat.le_of_ble_eq_true rfl) dX10_firstOtherwise_33 (c_X10_decides x3 (x2 / 10) (x2 % 10) (Int64.toInt32 v2) _ e7) ?_
      refine z_istore (L' := [some (.ref (z_ad g 0)), some (.ref (z_ad g x1)), some (.int x2), some (.int x3), some (.int x4), some (.int (bI v5))]) cx (by decide) rfl dX10_firstOtherwise_36 ?_
      refine z_iload cx rfl dX10_firstOtherwise_38 ?_
      refine z_aload_n cx rfl rfl dX10_firstOtherwise_40 ?_
      refine z_iload cx rfl dX10_firstOtherwise_41 ?_
      obtain ⟨v8, S9, e10, h⟩ := g_bd_ex h
      refine q_cvl (As := [.int x4]) cx mo_X8_at mv_X8_at z_cl8 rfl tb_211 (by decide) rfl wx1.1 wx1.2.1 rfl (Nat.le_of_ble_eq_true rfl) dX10_firstOtherwise_43 (c_X8_at x1 x4 _ wx1 e10) ?_
      refine z_lconst (v := 1) cx (by decide +kernel) dX10_firstOtherwise_46 ?_
      refine z_lcmp cx dX10_firstOtherwise_47 ?_
      refine z_if_ne (tgt := 55) cx (by decide) dX10_firstOtherwise_48 (fun c11 => ?_) (fun c11 => ?_)
      · have h := g_f c11 h
        refine z_iconst (v := 0) cx (by decide +kernel) dX10_firstOtherwise_55 ?_
        exact q_weak (z_wk_s (z_wk_s (z_wk_s (z_wk_s (z_wk_s (z_wk_n (z_wk_0))))))) (t_X10_firstOtherwise_56 n cx ce (f_X10_firstOtherwise_3 n m) ih x1 x2 x3 x4 0 (bI v5) S9 wx1 h)
      · have h := g_t c11 h
        refine z_iconst (v := 1) cx (by decide +kernel) dX10_firstOtherwise_51 ?_
        refine z_goto (tgt := 56) cx (by decide) dX10_firstOtherwise_52 ?_
        exact q_weak (z_wk_s (z_wk_s (z_wk_s (z_wk_s (z_wk_s (z_wk_n (z_wk_0))))))) (t_X10_firstOtherwise_56 n cx ce (f_X10_firstOtherwise_3 n m) ih x1 x2 x3 x4 1 (bI v5) S9 wx1 h)
def f_X10_firstOtherwise (n : Nat) (a0 : Nat) (a1 : Int32) (a2 : Int32) (S : z_Stt) : Option (Int32 × z_Stt) :=
  f_X10_firstOtherwise_3 n n a0 a1 a2 0 S
set_option maxHeartbeats 4000000 in
set_option maxRecDepth 100000 in
theorem t_X10_firstOtherwise {g : z_G} {K : z_K} (n : Nat) {v : Int32} {S' : z_Stt} (cx : z_C g M_X10_firstOtherwise 69 K) (ce : z_E' g M_X10_firstOtherwise (z_P g (some (.int v)) S') K) (a0 : Nat) (a1 : Int32) (a2 : Int32) (S : z_Stt) (wa0 : wp8 a0) (h : f_X10_firstOtherwise n a0 a1 a2 S = some (v, S')) : z_At g M_X10_firstOtherwise K 0 [some (.ref (z_ad g 0)), some (.ref (z_ad g a0)), some (.int a1), some (.int a2), none, none] [] (hp g S) := by
  unfold f_X10_firstOtherwise at h
  refine z_iconst (v := 0) cx (by decide +kernel) dX10_firstOtherwise_0 ?_
  refine z_istore (L' := [some (.ref (z_ad g 0)), some (.ref (z_ad g a0)), some (.int a1), some (.int a2), some (.int 0), none]) cx (by decide) rfl dX10_firstOtherwise_1 ?_
  exact q_weak (z_wk_s (z_wk_s (z_wk_s (z_wk_s (z_wk_s (z_wk_n (z_wk_0))))))) (t_X10_firstOtherwise_3 n cx ce n a0 a1 a2 0 S wa0 h)
theorem c_X10_firstOtherwise {g : z_G} {n : Nat} (a0 : Nat) (a1 : Int32) (a2 : Int32) (S : z_Stt) {v : Int32} {S' : z_Stt} (wa0 : wp8 a0) (h : f_X10_firstOtherwise n a0 a1 a2 S = some (v, S')) : z_Ct g M_X10_firstOtherwise 69 [.ref (z_ad g 0), .ref (z_ad g a0), .int a1, .int a2] (hp g S) (z_P g (some (.int v)) S') :=
  z_Ct.of (by decide +kernel) rfl (Nat.le_of_ble_eq_true rfl) (fun K cx ce => q_weak (L' := [some (.ref (z_ad g 0)), some (.ref (z_ad g a0)), some (.int a1), some (.int a2), none, none]) (z_wk_s (z_wk_s (z_wk_s (z_wk_s (z_wk_e (z_wk_e (z_wk_0))))))) (t_X10_firstOtherwise n cx ce a0 a1 a2 S wa0 h))
abbrev M_X10_fits : z_M := (RX10, yX10_fits, cX10_fits, 6, some .int)
theorem mo_X10_fits : z_mo M_X10_fits 2 := ⟨tb_890, tb_2, rfl, ⟨by decide +kernel, by decide +kernel⟩, by decide +kernel, by decide⟩
theorem mv_X10_fits : z_mv M_X10_fits := ⟨tb_888, tb_889⟩
def f_X10_fits_71 (n : Nat) (k40 : Int32 → Int32 → Int32 → Int32 → z_Stt → Option (Int32 × z_Stt)) (x1 : Int32) (x2 : Int32) (x4 : Int32) (x5 : Int32) (S : z_Stt) : Option (Int32 × z_Stt) :=
  k40 x1 x2 x4 (x5 + 1) S
set_option maxHeartbeats 4000000 in
set_option maxRecDepth 100000 in
theorem t_X10_fits_71 {g : z_G} {K : z_K} (n : Nat) {v : Int32} {S' : z_Stt} (cx : z_C g M_X10_fits 70 K) (ce : z_E' g M_X10_fits (z_P g (some (.int v)) S') K) (k40 : Int32 → Int32 → Int32 → Int32 → z_Stt → Option (Int32 × z_Stt)) (hk40 : ∀ (x1 : Int32) (x2 : Int32) (x4 : Int32) (x5 : Int32) (S : z_Stt), k40 x1 x2 x4 x5 S = some (v, S') → z_At g M_X10_fits K 40 [some (.ref (z_ad g 0)), some (.int x1), some (.int x2), none, some (.int x4), some (.int x5)] [] (hp g S)) (x1 : Int32) (x2 : Int32) (x4 : Int32) (x5 : Int32) (S : z_Stt) (h : f_X10_fits_71 n k40 x1 x2 x4 x5 S = some (v, S')) : z_At g M_X10_fits K 71 [some (.ref (z_ad g 0)), some (.int x1), some (.int x2), none, some (.int x4), some (.int x5)] [] (hp g S) := by
  unfold f_X10_fits_71 at h
  refine z_iinc (c := 1) (L' := [some (.ref (z_ad g 0)), some (.int x1), some (.int x2), none, some (.int x4), some (.int (x5 + 1))]) cx rfl (by decide +kernel) (by decide) rfl dX10_fits_71 ?_
  refine z_goto (tgt := 40) cx (by decide) dX10_fits_74 ?_
  exact q_weak (z_wk_s (z_wk_s (z_wk_s (z_wk_n (z_wk_s (z_wk_s (z_wk_0))))))) (hk40 x1 x2 x4 (x5 + 1) S h)
def f_X10_fits_40 (n : Nat) : Nat → Int32 → Int32 → Int32 → Int32 → z_Stt → Option (Int32 × z_Stt)
  | 0, _, _, _, _, _ => none
  | m + 1, x1, x2, x4, x5, S =>
    if 4 < x5 then
      some (x4, S)
    else
      if ¬ (x1 < 0 ∨ 6 ≤ x1.toNatClampNeg) then
        g_bd (f_X10_firstOtherwise n (36 + 2 * x1.toNatClampNeg) x2 x5 S) fun v3 S4 =>
        if 0 ≤ v3 then
          f_X10_fits_71 n (f_X10_fits_40 n m) x1 x2 x4 x5 S4
        else
          f_X10_fits_71 n (f_X10_fits_40 n m) x1 x2 (x4 ||| (1 <<< (x5 &&& 31))) x5 S4
      else none
set_option maxHeartbeats 4000000 in
set_option maxRecDepth 100000 in
theorem t_X10_fits_40 {g : z_G} {K : z_K} (n : Nat) {v : Int32} {S' : z_Stt} (cx : z_C g M_X10_fits 70 K) (ce : z_E' g M_X10_fits (z_P g (some (.int v)) S') K) : ∀ (m : Nat) (x1 : Int32) (x2 : Int32) (x4 : Int32) (x5 : Int32) (S : z_Stt) (h : f_X10_fits_40 n m x1 x2 x4 x5 S = some (v, S')), z_At g M_X10_fits K 40 [some (.ref (z_ad g 0)), some (.int x1), some (.int x2), none, some (.int x4), some (.int x5)] [] (hp g S) := by
  intro m
  induction m with
  | zero => intro x1 x2 x4 x5 S h; simp [f_X10_fits_40] at h
  | succ m ih =>
    intro x1 x2 x4 x5 S h
    rw [f_X10_fits_40] at h
    refine z_iload cx rfl dX10_fits_40 ?_
    refine z_iconst (v := 4) cx (by decide +kernel) dX10_fits_42 ?_
    refine z_icmp_gt (tgt := 77) cx (by decide) dX10_fits_43 (fun c1 => ?_) (fun c1 => ?_)
    · have h := g_t c1 h
      refine z_iload cx rfl dX10_fits_77 ?_
      obtain ⟨rfl, rfl⟩ := g_some h
      exact z_ireturn cx ce rfl ⟨rfl, rfl⟩ dX10_fits_79
    · have h := g_f c1 h
      refine z_aload_n cx rfl rfl dX10_fits_46 ?_
      refine z_aload_n cx rfl rfl dX10_fits_47 ?_
      refine q_getF (k := 0) (n := 35) (r := 35) cx z_cl10 (j := 11) (by decide) tb_52 rfl (by decide) rfl rfl rfl dX10_fits_48 ?_
      refine z_iload_n cx rfl rfl dX10_fits_51 ?_
      obtain ⟨c2, h⟩ := g_if h
      refine q_aald_S cx (by decide) rfl c2 dX10_fits_52 ?_
      refine z_iload_n cx rfl rfl dX10_fits_53 ?_
      refine z_iload cx rfl dX10_fits_54 ?_
      obtain ⟨v3, S4, e5, h⟩ := g_bd_ex h
      refine q_cvi (As := [.ref (z_ad g (36 + 2 * x1.toNatClampNeg)), .int x2, .int x5]) cx mo_X10_firstOtherwise mv_X10_firstOtherwise z_cl10 rfl tb_894 (by decide) rfl (by decide) rfl rfl (Nat.le_of_ble_eq_true rfl) dX10_fits_56 (c_X10_firstOtherwise (36 + 2 * x1.toNatClampNeg) x2 x5 _ (wp8_of c2) e5) ?_
      refine z_if_ge (tgt := 71) cx (by decide) dX10_fits_59 (fun c6 => ?_) (fun c6 => ?_)
      · have h := g_t c6 h
        exact q_weak (z_wk_s (z_wk_s (z_wk_s (z_wk_n (z_wk_s (z_wk_s (z_wk_0))))))) (t_X10_fits_71 n cx ce (f_X10_fits_40 n m) ih x1 x2 x4 x5 S4 h)
      · have h := g_f c6 h
        refine z_iload cx rfl dX10_fits_62 ?_
        refine z_iconst (v := 1) cx (by decide +kernel) dX10_fits_64 ?_
        refine z_iload cx rfl dX10_fits_65 ?_
        refine z_ishl cx dX10_fits_67 ?_
        refine z_ior cx dX10_fits_68 ?_
        refine z_istore (L' := [some (.ref (z_ad g 0)), some (.int x1), some (.int x2), none, some (.int (x4 ||| (1 <<< (x5 &&& 31)))), some (.int x5)]) cx (by decide) rfl dX10_fits_69 ?_
        exact q_weak (z_wk_s (z_wk_s (z_wk_s (z_wk_n (z_wk_s (z_wk_s (z_wk_0))))))) (t_X10_fits_71 n cx ce (f_X10_fits_40 n m) ih x1 x2 (x4 ||| (1 <<< (x5 &&& 31))) x5 S4 h)
def f_X10_fits (n : Nat) (a0 : Int32) (a1 : Int32) (S : z_Stt) : Option (Int32 × z_Stt) :=
  g_bd (f_X10_isShelf a0 S) fun v1 S2 =>
  if v1 = true then
    g_bd (f_X10_isThingAndMemory a1 1 S2) fun v5 S6 =>
    if v5 = true then
      if ¬ (a0 < 0 ∨ 6 ≤ a0.toNatClampNeg) then
        g_bd (f_X10_gravelRefusal n (36 + 2 * a0.toNatClampNeg) S6) fun v10 S11 =>
        if v10 = 0 then
          f_X10_fits_40 n n a0 a1 0 0 S11
        else
          some (v10, S11)
      else none
    else
      some ((-1), S6)
  else
    some ((-1), S2)
set_option maxHeartbeats 4000000 in
set_option maxRecDepth 100000 in
theorem t_X10_fits {g : z_G} {K : z_K} (n : Nat) {v : Int32} {S' : z_Stt} (cx : z_C g M_X10_fits 70 K) (ce : z_E' g M_X10_fits (z_P g (some (.int v)) S') K) (a0 : Int32) (a1 : Int32) (S : z_Stt) (h : f_X10_fits n a0 a1 S = some (v, S')) : z_At g M_X10_fits K 0 [some (.ref (z_ad g 0)), some (.int a0), some (.int a1), none, none, none] [] (hp g S) := by
  unfold f_X10_fits at h
  refine z_iload_n cx rfl rfl dX10_fits_0 ?_
  obtain ⟨v1, S2, e3, h⟩ := g_bd_ex h
  refine q_csi (As := [.int a0]) cx mo_X10_isShelf ms_X10_isShelf tb_198 (by decide) rfl rfl (Nat.le_of_ble_eq_true rfl) dX10_fits_1 (c_X10_isShelf a0 _ e3) ?_
  refine q_ifb_eq (tgt := 16) cx (by decide) dX10_fits_4 (fun c4 => ?_) (fun c4 => ?_)
  · have h := g_f (Bool.eq_false_iff.mp c4) h
    refine z_iconst (v := (-1)) cx (by decide +kernel) dX10_fits_16 ?_
    obtain ⟨rfl, rfl⟩ := g_some h
    exact z_ireturn cx ce rfl ⟨rfl, rfl⟩ dX10_fits_17
  · have h := g_t c4 h
    refine z_aload_n cx rfl rfl dX10_fits_7 ?_
    refine z_iload_n cx rfl rfl dX10_fits_8 ?_
    refine z_iconst (v := 1) cx (by decide +kernel) dX10_fits_9 ?_
    obtain ⟨v5, S6, e7, h⟩ := g_bd_ex h
    refine q_cvi (As := [.int a1, .int 1]) cx mo_X10_isThingAndMemory mv_X10_isThingAndMemory z_cl10 rfl tb_518 (by decide) rfl (by decide) rfl rfl (Nat.le_of_ble_eq_true rfl) dX10_fits_10 (c_X10_isThingAndMemory a1 1 _ e7) ?_
    refine q_ifb_ne (tgt := 18) cx (by decide) dX10_fits_13 (fun c8 => ?_) (fun c8 => ?_)
    · have h := g_t c8 h
      refine z_aload_n cx rfl rfl dX10_fits_18 ?_
      refine q_getF (k := 0) (n := 35) (r := 35) cx z_cl10 (j := 11) (by decide) tb_52 rfl (by decide) rfl rfl rfl dX10_fits_19 ?_
      refine z_iload_n cx rfl rfl dX10_fits_22 ?_
      obtain ⟨c9, h⟩ := g_if h
      refine q_aald_S cx (by decide) rfl c9 dX10_fits_23 ?_
      obtain ⟨v10, S11, e12, h⟩ := g_bd_ex h
      refine q_csi (As := [.ref (z_ad g (36 + 2 * a0.toNatClampNeg))]) cx mo_X10_gravelRefusal ms_X10_gravelRefusal tb_891 (by decide) rfl rfl (Nat.le_of_ble_eq_true rfl) dX10_fits_24 (c_X10_gravelRefusal (36 + 2 * a0.toNatClampNeg) _ (wp8_of c9) e12) ?_
      refine z_istore_n (L' := [some (.ref (z_ad g 0)), some (.int a0), some (.int a1), some (.int v10), none, none]) cx rfl (by decide) rfl dX10_fits_27 ?_
      refine z_iload_n cx rfl rfl dX10_fits_28 ?_
      refine z_if_eq (tgt := 34) cx (by decide) dX10_fits_29 (fun c13 => ?_) (fun c13 => ?_)
      · have h := g_t c13 h
        refine z_iconst (v := 0) cx (by decide +kernel) dX10_fits_34 ?_
        refine z_istore (L' := [some (.ref (z_ad g 0)), some (.int a0), some (.int a1), some (.int v10), some (.int 0), none]) cx (by decide) rfl dX10_fits_35 ?_
        refine z_iconst (v := 0) cx (by decide +kernel) dX10_fits_37 ?_
        refine z_istore (L' := [some (.ref (z_ad g 0)), some (.int a0), some (.int a1), some (.int v10), some (.int 0), some (.int 0)]) cx (by decide) rfl dX10_fits_38 ?_
        exact q_weak (z_wk_s (z_wk_s (z_wk_s (z_wk_n (z_wk_s (z_wk_s (z_wk_0))))))) (t_X10_fits_40 n cx ce n a0 a1 0 0 S11 h)
      · have h := g_f c13 h
        refine z_iload_n cx rfl rfl dX10_fits_32 ?_
        obtain ⟨rfl, rfl⟩ := g_some h
        exact z_ireturn cx ce rfl ⟨rfl, rfl⟩ dX10_fits_33
    · have h := g_f (Bool.eq_false_iff.mp c8) h
      refine z_iconst (v := (-1)) cx (by decide +kernel) dX10_fits_16 ?_
      obtain ⟨rfl, rfl⟩ := g_some h
      exact z_ireturn cx ce rfl ⟨rfl, rfl⟩ dX10_fits_17
theorem c_X10_fits {g : z_G} {n : Nat} (a0 : Int32) (a1 : Int32) (S : z_Stt) {v : Int32} {S' : z_Stt} (h : f_X10_fits n a0 a1 S = some (v, S')) : z_Ct g M_X10_fits 70 [.ref (z_ad g 0), .int a0, .int a1] (hp g S) (z_P g (some (.int v)) S') :=
  z_Ct.of (by decide +kernel) rfl (Nat.le_of_ble_eq_true rfl) (fun K cx ce => q_weak (L' := [some (.ref (z_ad g 0)), some (.int a0), some (.int a1), none, none, none]) (z_wk_s (z_wk_s (z_wk_s (z_wk_e (z_wk_e (z_wk_e (z_wk_0))))))) (t_X10_fits n cx ce a0 a1 S h))
abbrev M_X10_when : z_M := (RX10, yX10_when, cX10_when, 6, some .int)
theorem mo_X10_when : z_mo M_X10_when 3 := ⟨tb_917, tb_2, rfl, ⟨by decide +kernel, by decide +kernel⟩, by decide +kernel, by decide⟩
theorem mv_X10_when : z_mv M_X10_when := ⟨tb_915, tb_916⟩
def f_X10_when (n : Nat) (a0 : Int32) (a1 : Int32) (a2 : Int32) (S : z_Stt) : Option (Int32 × z_Stt) :=
  g_bd (f_X10_isShelf a0 S) fun v1 S2 =>
  if v1 = true then
    g_bd (f_X10_isThingAndMemory a1 1 S2) fun v5 S6 =>
    if v5 = true then
      g_bd (f_X10_isWay a2 S6) fun v9 S10 =>
      if v9 = true then
        if ¬ (a0 < 0 ∨ 6 ≤ a0.toNatClampNeg) then
          g_bd (f_X10_gravelRefusal n (36 + 2 * a0.toNatClampNeg) S10) fun v14 S15 =>
          if v14 = 0 then
            if ¬ (a0 < 0 ∨ 6 ≤ a0.toNatClampNeg) then
              g_bd (f_X10_firstOtherwise n (36 + 2 * a0.toNatClampNeg) a1 a2 S15) fun v19 S20 =>
              if 0 ≤ v19 then
                some (v19, S20)
              else
                some ((-2), S20)
            else none
          else
            some (v14, S15)
        else none
      else
        some ((-1), S10)
    else
      some ((-1), S6)
  else
    some ((-1), S2)
set_option maxHeartbeats 4000000 in
set_option maxRecDepth 100000 in
theorem t_X10_when {g : z_G} {K : z_K} (n : Nat) {v : Int32} {S' : z_Stt} (cx : z_C g M_X10_when 70 K) (ce : z_E' g M_X10_when (z_P g (some (.int v)) S') K) (a0 : Int32) (a1 : Int32) (a2 : Int32) (S : z_Stt) (h : f_X10_when n a0 a1 a2 S = some (v, S')) : z_At g M_X10_when K 0 [some (.ref (z_ad g 0)), some (.int a0), some (.int a1), some (.int a2), none, none] [] (hp g S) := by
  unfold f_X10_when at h
  refine z_iload_n cx rfl rfl dX10_when_0 ?_
  obtain ⟨v1, S2, e3, h⟩ := g_bd_ex h
  refine q_csi (As := [.int a0]) cx mo_X10_isShelf ms_X10_isShelf tb_198 (by decide) rfl rfl (Nat.le_of_ble_eq_true rfl) dX10_when_1 (c_X10_isShelf a0 _ e3) ?_
  refine q_ifb_eq (tgt := 23) cx (by decide) dX10_when_4 (fun c4 => ?_) (fun c4 => ?_)
  · have h := g_f (Bool.eq_false_iff.mp c4) h
    refine z_iconst (v := (-1)) cx (by decide +kernel) dX10_when_23 ?_
    obtain ⟨rfl, rfl⟩ := g_some h
    exact z_ireturn cx ce rfl ⟨rfl, rfl⟩ dX10_when_24
  · have h := g_t c4 h
    refine z_aload_n cx rfl rfl dX10_when_7 ?_
    refine z_iload_n cx rfl rfl dX10_when_8 ?_
    refine z_iconst (v := 1) cx (by decide +kernel) dX10_when_9 ?_
    obtain ⟨v5, S6, e7, h⟩ := g_bd_ex h
    refine q_cvi (As := [.int a1, .int 1]) cx mo_X10_isThingAndMemory mv_X10_isThingAndMemory z_cl10 rfl tb_518 (by decide) rfl (by decide) rfl rfl (Nat.le_of_ble_eq_true rfl) dX10_when_10 (c_X10_isThingAndMemory a1 1 _ e7) ?_
    refine q_ifb_eq (tgt := 23) cx (by decide) dX10_when_13 (fun c8 => ?_) (fun c8 => ?_)
    · have h := g_f (Bool.eq_false_iff.mp c8) h
      refine z_iconst (v := (-1)) cx (by decide +kernel) dX10_when_23 ?_
      obtain ⟨rfl, rfl⟩ := g_some h
      exact z_ireturn cx ce rfl ⟨rfl, rfl⟩ dX10_when_24
    · have h := g_t c8 h
      refine z_iload_n cx rfl rfl dX10_when_16 ?_
      obtain ⟨v9, S10, e11, h⟩ := g_bd_ex h
      refine q_csi (As := [.int a2]) cx mo_X10_isWay ms_X10_isWay tb_848 (by decide) rfl rfl (Nat.le_of_ble_eq_true rfl) dX10_when_17 (c_X10_isWay a2 _ e11) ?_
      refine q_ifb_ne (tgt := 25) cx (by decide) dX10_when_20 (fun c12 => ?_) (fun c12 => ?_)
      · have h := g_t c12 h
        refine z_aload_n cx rfl rfl dX10_when_25 ?_
        refine q_getF (k := 0) (n := 35) (r := 35) cx z_cl10 (j := 11) (by decide) tb_52 rfl (by decide) rfl rfl rfl dX10_when_26 ?_
        refine z_iload_n cx rfl rfl dX10_when_29 ?_
        obtain ⟨c13, h⟩ := g_if h
        refine q_aald_S cx (by decide) rfl c13 dX10_when_30 ?_
        obtain ⟨v14, S15, e16, h⟩ := g_bd_ex h
        refine q_csi (As := [.ref (z_ad g (36 + 2 * a0.toNatClampNeg))]) cx mo_X10_gravelRefusal ms_X10_gravelRefusal tb_891 (by decide) rfl rfl (Nat.le_of_ble_eq_true rfl) dX10_when_31 (c_X10_gravelRefusal (36 + 2 * a0.toNatClampNeg) _ (wp8_of c13) e16) ?_
        refine z_istore (L' := [some (.ref (z_ad g 0)), some (.int a0), some (.int a1), some (.int a2), some (.int v14), none]) cx (by decide) rfl dX10_when_34 ?_
        refine z_iload cx rfl dX10_when_36 ?_
        refine z_if_eq (tgt := 44) cx (by decide) dX10_when_38 (fun c17 => ?_) (fun c17 => ?_)
        · have h := g_t c17 h
          refine z_aload_n cx rfl rfl dX10_when_44 ?_
          refine z_aload_n cx rfl rfl dX10_when_45 ?_
          refine q_getF (k := 0) (n := 35) (r := 35) cx z_cl10 (j := 11) (by decide) tb_52 rfl (by decide) rfl rfl rfl dX10_when_46 ?_
          refine z_iload_n cx rfl rfl dX10_when_49 ?_
          obtain ⟨c18, h⟩ := g_if h
          refine q_aald_S cx (by decide) rfl c18 dX10_when_50 ?_
          refine z_iload_n cx rfl rfl dX10_when_51 ?_
          refine z_iload_n cx rfl rfl dX10_when_52 ?_
          obtain ⟨v19, S20, e21, h⟩ := g_bd_ex h
          refine q_cvi (As := [.ref (z_ad g (36 + 2 * a0.toNatClampNeg)), .int a1, .int a2]) cx mo_X10_firstOtherwise mv_X10_firstOtherwise z_cl10 rfl tb_894 (by decide) rfl (by decide) rfl rfl (Nat.le_of_ble_eq_true rfl) dX10_when_53 (c_X10_firstOtherwise (36 + 2 * a0.toNatClampNeg) a1 a2 _ (wp8_of c18) e21) ?_
          refine z_istore (L' := [some (.ref (z_ad g 0)), some (.int a0), some (.int a1), some (.int a2), some (.int v14), some (.int v19)]) cx (by decide) rfl dX10_when_56 ?_
          refine z_iload cx rfl dX10_when_58 ?_
          refine z_if_ge (tgt := 68) cx (by decide) dX10_when_60 (fun c22 => ?_) (fun c22 => ?_)
          · have h := g_t c22 h
            refine z_iload cx rfl dX10_when_68 ?_
            obtain ⟨rfl, rfl⟩ := g_some h
            exact z_ireturn cx ce rfl ⟨rfl, rfl⟩ dX10_when_70
          · have h := g_f c22 h
            refine z_bipush (v := (-2)) cx (by decide +kernel) dX10_when_63 ?_
            refine z_goto (tgt := 70) cx (by decide) dX10_when_65 ?_
            obtain ⟨rfl, rfl⟩ := g_some h
            exact z_ireturn cx ce rfl ⟨rfl, rfl⟩ dX10_when_70
        · have h := g_f c17 h
          refine z_iload cx rfl dX10_when_41 ?_
          obtain ⟨rfl, rfl⟩ := g_some h
          exact z_ireturn cx ce rfl ⟨rfl, rfl⟩ dX10_when_43
      · have h := g_f (Bool.eq_false_iff.mp c12) h
        refine z_iconst (v := (-1)) cx (by decide +kernel) dX10_when_23 ?_
        obtain ⟨rfl, rfl⟩ := g_some h
        exact z_ireturn cx ce rfl ⟨rfl, rfl⟩ dX10_when_24
theorem c_X10_when {g : z_G} {n : Nat} (a0 : Int32) (a1 : Int32) (a2 : Int32) (S : z_Stt) {v : Int32} {S' : z_Stt} (h : f_X10_when n a0 a1 a2 S = some (v, S')) : z_Ct g M_X10_when 70 [.ref (z_ad g 0), .int a0, .int a1, .int a2] (hp g S) (z_P g (some (.int v)) S') :=
  z_Ct.of (by decide +kernel) rfl (Nat.le_of_ble_eq_true rfl) (fun K cx ce => q_weak (L' := [some (.ref (z_ad g 0)), some (.int a0), some (.int a1), some (.int a2), none, none]) (z_wk_s (z_wk_s (z_wk_s (z_wk_s (z_wk_e (z_wk_e (z_wk_0))))))) (t_X10_when n cx ce a0 a1 a2 S h))
abbrev M_X10_isSo : z_M := (RX10, yX10_isSo, cX10_isSo, 7, some .boolean)
theorem mo_X10_isSo : z_mo M_X10_isSo 3 := ⟨tb_930, tb_2, rfl, ⟨by decide +kernel, by decide +kernel⟩, by decide +kernel, by decide⟩
theorem mv_X10_isSo : z_mv M_X10_isSo := ⟨tb_928, tb_929⟩
def f_X10_isSo (n : Nat) (a0 : Int64) (a1 : Int64) (a2 : Int64) (S : z_Stt) : Option (Bool × z_Stt) :=
  g_bd (f_X10_isThing (Int64.toInt32 a0) S) fun v1 S2 =>
  if v1 = true then
    if lg_cmp a1 0 < 0 then
      some (false, S2)
    else
      if lg_cmp a1 1 ≤ 0 then
        g_bd (f_X10_findOpen n (Int64.toInt32 a0) (Int64.toInt32 a1) 17 S2) fun v7 S8 =>
        if v7 = true then
          g_bd (f_X4_of144 17 S8) fun v11 S12 =>
          if lg_cmp (Int32.toInt64 v11) a2 = 0 then
            some (true, S12)
          else
            some (false, S12)
        else
          some (false, S8)
      else
        some (false, S2)
  else
    some (false, S2)
set_option maxHeartbeats 4000000 in
set_option maxRecDepth 100000 in
theorem t_X10_isSo {g : z_G} {K : z_K} (n : Nat) {v : Bool} {S' : z_Stt} (cx : z_C g M_X10_isSo 5 K) (ce : z_E' g M_X10_isSo (z_P g (some (.int (bI v))) S') K) (a0 : Int64) (a1 : Int64) (a2 : Int64) (S : z_Stt) (h : f_X10_isSo n a0 a1 a2 S = some (v, S')) : z_At g M_X10_isSo K 0 [some (.ref (z_ad g 0)), some (.long a0), none, some (.long a1), none, some (.long a2), none] [] (hp g S) := by
  unfold f_X10_isSo at h
  refine z_aload_n cx rfl rfl dX10_isSo_0 ?_
  refine z_lload_n cx rfl rfl dX10_isSo_1 ?_
  refine z_l2i cx dX10_isSo_2 ?_
  obtain ⟨v1, S2, e3, h⟩ := g_bd_ex h
  refine q_cvi (As := [.int (Int64.toInt32 a0)]) cx mo_X10_isThing mv_X10_isThing z_cl10 rfl tb_303 (by decide) rfl (by decide) rfl rfl (Nat.le_of_ble_eq_true rfl) dX10_isSo_3 (c_X10_isThing (Int64.toInt32 a0) _ e3) ?_
  refine q_ifb_eq (tgt := 21) cx (by decide) dX10_isSo_6 (fun c4 => ?_) (fun c4 => ?_)
  · have h := g_f (Bool.eq_false_iff.mp c4) h
    refine z_iconst (v := 0) cx (by decide +kernel) dX10_isSo_21 ?_
    obtain ⟨rfl, rfl⟩ := g_some h
    exact z_zreturn cx ce rfl (by decide +kernel) ⟨rfl, rfl⟩ dX10_isSo_22
  · have h := g_t c4 h
    refine z_lload_n cx rfl rfl dX10_isSo_9 ?_
    refine z_lconst (v := 0) cx (by decide +kernel) dX10_isSo_10 ?_
    refine z_lcmp cx dX10_isSo_11 ?_
    refine z_if_lt (tgt := 21) cx (by decide) dX10_isSo_12 (fun c5 => ?_) (fun c5 => ?_)
    · have h := g_t c5 h
      refine z_iconst (v := 0) cx (by decide +kernel) dX10_isSo_21 ?_
      obtain ⟨rfl, rfl⟩ := g_some h
      exact z_zreturn cx ce rfl (by decide +kernel) ⟨rfl, rfl⟩ dX10_isSo_22
    · have h := g_f c5 h
      refine z_lload_n cx rfl rfl dX10_isSo_15 ?_
      refine z_lconst (v := 1) cx (by decide +kernel) dX10_isSo_16 ?_
      refine z_lcmp cx dX10_isSo_17 ?_
      refine z_if_le (tgt := 23) cx (by decide) dX10_isSo_18 (fun c6 => ?_) (fun c6 => ?_)
      · have h := g_t c6 h
        refine z_aload_n cx rfl rfl dX10_isSo_23 ?_
        refine z_lload_n cx rfl rfl dX10_isSo_24 ?_
        refine z_l2i cx dX10_isSo_25 ?_
        refine z_lload_n cx rfl rfl dX10_isSo_26 ?_
        refine z_l2i cx dX10_isSo_27 ?_
        refine z_aload_n cx rfl rfl dX10_isSo_28 ?_
        refine q_getF (k := 0) (n := 17) (r := 17) cx z_cl10 (j := 6) (by decide) tb_34 rfl (by decide) rfl rfl rfl dX10_isSo_29 ?_
        obtain ⟨v7, S8, e9, h⟩ := g_bd_ex h
        refine q_cvi (As := [.int (Int64.toInt32 a0), .int (Int64.toInt32 a1), .ref (z_ad g 17)]) cx mo_X10_findOpen mv_X10_findOpen z_cl10 rfl tb_444 (by decide) rfl (by decide) rfl rfl (Nat.le_of_ble_eq_true rfl) dX10_isSo_32 (c_X10_findOpen (Int64.toInt32 a0) (Int64.toInt32 a1) 17 _ wp4_17 e9) ?_
        refine q_ifb_eq (tgt := 56) cx (by decide) dX10_isSo_35 (fun c10 => ?_) (fun c10 => ?_)
        · have h := g_f (Bool.eq_false_iff.mp c10) h
          refine z_iconst (v := 0) cx (by decide +kernel) dX10_isSo_56 ?_
          obtain ⟨rfl, rfl⟩ := g_some h
          exact z_zreturn cx ce rfl (by decide +kernel) ⟨rfl, rfl⟩ dX10_isSo_57
        · have h := g_t c10 h
          refine z_aload_n cx rfl rfl dX10_isSo_38 ?_
          refine q_getF (k := 0) (n := 17) (r := 17) cx z_cl10 (j := 6) (by decide) tb_34 rfl (by decide) rfl rfl rfl dX10_isSo_39 ?_
          obtain ⟨v11, S12, e13, h⟩ := g_bd_ex h
          refine q_cvi (As := []) cx mo_X4_of144 mv_X4_of144 z_cl4 rfl tb_668 (by decide) rfl (by decide) rfl rfl (Nat.le_of_ble_eq_true rfl) dX10_isSo_42 (c_X4_of144 17 _ wp4_17 e13) ?_
          refine z_i2l cx dX10_isSo_45 ?_
          refine z_lload cx rfl dX10_isSo_46 ?_
          refine z_lcmp cx dX10_isSo_48 ?_
          refine z_if_ne (tgt := 56) cx (by decide) dX10_isSo_49 (fun c14 => ?_) (fun c14 => ?_)
          · have h := g_f c14 h
            refine z_iconst (v := 0) cx (by decide +kernel) dX10_isSo_56 ?_
            obtain ⟨rfl, rfl⟩ := g_some h
            exact z_zreturn cx ce rfl (by decide +kernel) ⟨rfl, rfl⟩ dX10_isSo_57
          · have h := g_t c14 h
            refine z_iconst (v := 1) cx (by decide +kernel) dX10_isSo_52 ?_
            refine z_goto (tgt := 57) cx (by decide) dX10_isSo_53 ?_
            obtain ⟨rfl, rfl⟩ := g_some h
            exact z_zreturn cx ce rfl (by decide +kernel) ⟨rfl, rfl⟩ dX10_isSo_57
      · have h := g_f c6 h
        refine z_iconst (v := 0) cx (by decide +kernel) dX10_isSo_21 ?_
        obtain ⟨rfl, rfl⟩ := g_some h
        exact z_zreturn cx ce rfl (by decide +kernel) ⟨rfl, rfl⟩ dX10_isSo_22
theorem c_X10_isSo {g : z_G} {n : Nat} (a0 : Int64) (a1 : Int64) (a2 : Int64) (S : z_Stt) {v : Bool} {S' : z_Stt} (h : f_X10_isSo n a0 a1 a2 S = some (v, S')) : z_Ct g M_X10_isSo 5 [.ref (z_ad g 0), .long a0, .long a1, .long a2] (hp g S) (z_P g (some (.int (bI v))) S') :=
  z_Ct.of (by decide +kernel) rfl (Nat.le_of_ble_eq_true rfl) (fun K cx ce => q_weak (L' := [some (.ref (z_ad g 0)), some (.long a0), none, some (.long a1), none, some (.long a2), none]) (z_wk_s (z_wk_s (z_wk_n (z_wk_s (z_wk_n (z_wk_s (z_wk_n (z_wk_0)))))))) (t_X10_isSo n cx ce a0 a1 a2 S h))
abbrev M_X10_judge : z_M := (RX10, yX10_judge, cX10_judge, 5, some .int)
theorem mo_X10_judge : z_mo M_X10_judge 1 := ⟨tb_926, tb_2, rfl, ⟨by decide +kernel, by decide +kernel⟩, by decide +kernel, by decide⟩
theorem mv_X10_judge : z_mv M_X10_judge := ⟨tb_924, tb_925⟩
def f_X10_judge_80 (n : Nat) (x4 : Int32) (S : z_Stt) : Option (Int32 × z_Stt) :=
  some (x4 / 3, S)
set_option maxHeartbeats 4000000 in
set_option maxRecDepth 100000 in
theorem t_X10_judge_80 {g : z_G} {K : z_K} (n : Nat) {v : Int32} {S' : z_Stt} (cx : z_C g M_X10_judge 6 K) (ce : z_E' g M_X10_judge (z_P g (some (.int v)) S') K) (x4 : Int32) (S : z_Stt) (h : f_X10_judge_80 n x4 S = some (v, S')) : z_At g M_X10_judge K 80 [none, none, none, none, some (.int x4)] [] (hp g S) := by
  unfold f_X10_judge_80 at h
  refine z_iload cx rfl dX10_judge_80 ?_
  refine z_iconst (v := 3) cx (by decide +kernel) dX10_judge_82 ?_
  refine z_idiv cx (by decide +kernel) dX10_judge_83 ?_
  obtain ⟨rfl, rfl⟩ := g_some h
  exact z_ireturn cx ce rfl ⟨rfl, rfl⟩ dX10_judge_84
def f_X10_judge_31 (n : Nat) : Nat → Nat → Int32 → z_Stt → Option (Int32 × z_Stt)
  | 0, _, _, _ => none
  | m + 1, x2, x4, S =>
    if S.1 (100 * x2 + 3) ≤ x4 then
      some ((-2), S)
    else
      if S.1 (100 * x2 + 3) ≤ x4 + 2 then
        f_X10_judge_80 n x4 S
      else
        g_bd (f_X8_at x2 x4 S) fun v3 S4 =>
        g_bd (f_X8_at x2 (x4 + 1) S4) fun v6 S7 =>
        g_bd (f_X8_at x2 (x4 + 2) S7) fun v9 S10 =>
        g_bd (f_X10_isSo n v3 v6 v9 S10) fun v12 S13 =>
        if v12 = true then
          f_X10_judge_31 n m x2 (x4 + 3) S13
        else
          f_X10_judge_80 n x4 S13
set_option maxHeartbeats 4000000 in
set_option maxRecDepth 100000 in
theorem t_X10_judge_31 {g : z_G} {K : z_K} (n : Nat) {v : Int32} {S' : z_Stt} (cx : z_C g M_X10_judge 6 K) (ce : z_E' g M_X10_judge (z_P g (some (.int v)) S') K) : ∀ (m : Nat) (x2 : Nat) (x4 : Int32) (S : z_Stt) (wx2 : wp8 x2) (h : f_X10_judge_31 n m x2 x4 S = some (v, S')), z_At g M_X10_judge K 31 [some (.ref (z_ad g 0)), none, some (.ref (z_ad g x2)), none, some (.int x4)] [] (hp g S) := by
  intro m
  induction m with
  | zero => intro x2 x4 S wx2 h; simp [f_X10_judge_31] at h
  | succ m ih =>
    intro x2 x4 S wx2 h
    rw [f_X10_judge_31] at h
    refine z_iload cx rfl dX10_judge_31 ?_
    refine z_aload_n cx rfl rfl dX10_judge_33 ?_
    refine q_getI (k := x2) (n := 100 * x2 + 3) cx z_cl8 (j := 3) (by decide) tb_210 rfl wx2.1 wx2.2.1 rfl rfl dX10_judge_34 ?_
    refine z_icmp_ge (tgt := 91) cx (by decide) dX10_judge_37 (fun c1 => ?_) (fun c1 => ?_)
    · have h := g_t c1 h
      refine z_bipush (v := (-2)) cx (by decide +kernel) dX10_judge_91 ?_
      obtain ⟨rfl, rfl⟩ := g_some h
      exact z_ireturn cx ce rfl ⟨rfl, rfl⟩ dX10_judge_93
    · have h := g_f c1 h
      refine z_iload cx rfl dX10_judge_40 ?_
      refine z_iconst (v := 2) cx (by decide +kernel) dX10_judge_42 ?_
      refine z_iadd cx dX10_judge_43 ?_
      refine z_aload_n cx rfl rfl dX10_judge_44 ?_
      refine q_getI (k := x2) (n := 100 * x2 + 3) cx z_cl8 (j := 3) (by decide) tb_210 rfl wx2.1 wx2.2.1 rfl rfl dX10_judge_45 ?_
      refine z_icmp_ge (tgt := 80) cx (by decide) dX10_judge_48 (fun c2 => ?_) (fun c2 => ?_)
      · have h := g_t c2 h
        exact q_weak (z_wk_n (z_wk_n (z_wk_n (z_wk_n (z_wk_s (z_wk_0)))))) (t_X10_judge_80 n cx ce x4 S h)
      · have h := g_f c2 h
        refine z_aload_n cx rfl rfl dX10_judge_51 ?_
        refine z_aload_n cx rfl rfl dX10_judge_52 ?_
        refine z_iload cx rfl dX10_judge_53 ?_
        obtain ⟨v3, S4, e5, h⟩ := g_bd_ex h
        refine q_cvl (As := [.int x4]) cx mo_X8_at mv_X8_at z_cl8 rfl tb_211 (by decide) rfl wx2.1 wx2.2.1 rfl (Nat.le_of_ble_eq_true rfl) dX10_judge_55 (c_X8_at x2 x4 _ wx2 e5) ?_
        refine z_aload_n cx rfl rfl dX10_judge_58 ?_
        refine z_iload cx rfl dX10_judge_59 ?_
        refine z_iconst (v := 1) cx (by decide +kernel) dX10_judge_61 ?_
        refine z_iadd cx dX10_judge_62 ?_
        obtain ⟨v6, S7, e8, h⟩ := g_bd_ex h
        refine q_cvl (As := [.int (x4 + 1)]) cx mo_X8_at mv_X8_at z_cl8 rfl tb_211 (by decide) rfl wx2.1 wx2.2.1 rfl (Nat.le_of_ble_eq_true rfl) dX10_judge_63 (c_X8_at x2 (x4 + 1) _ wx2 e8) ?_
        refine z_aload_n cx rfl rfl dX10_judge_66 ?_
        refine z_iload cx rfl dX10_judge_67 ?_
        refine z_iconst (v := 2) cx (by decide +kernel) dX10_judge_69 ?_
        refine z_iadd cx dX10_judge_70 ?_
        obtain ⟨v9, S10, e11, h⟩ := g_bd_ex h
        refine q_cvl (As := [.int (x4 + 2)]) cx mo_X8_at mv_X8_at z_cl8 rfl tb_211 (by decide) rfl wx2.1 wx2.2.1 rfl (Nat.le_of_ble_eq_true rfl) dX10_judge_71 (c_X8_at x2 (x4 + 2) _ wx2 e11) ?_
        obtain ⟨v12, S13, e14, h⟩ := g_bd_ex h
        refine q_cvi (As := [.long v3, .long v6, .long v9]) cx mo_X10_isSo mv_X10_isSo z_cl10 rfl tb_927 (by decide) rfl (by decide) rfl rfl (Nat.le_of_ble_eq_true rfl) dX10_judge_74 (c_X10_isSo v3 v6 v9 _ e14) ?_
        refine q_ifb_ne (tgt := 85) cx (by decide) dX10_judge_77 (fun c15 => ?_) (fun c15 => ?_)
        · have h := g_t c15 h
          refine z_iinc (c := 3) (L' := [some (.ref (z_ad g 0)), none, some (.ref (z_ad g x2)), none, some (.int (x4 + 3))]) cx rfl (by decide +kernel) (by decide) rfl dX10_judge_85 ?_
          refine z_goto (tgt := 31) cx (by decide) dX10_judge_88 ?_
          exact q_weak (z_wk_s (z_wk_n (z_wk_s (z_wk_n (z_wk_s (z_wk_0)))))) (ih x2 (x4 + 3) S13 wx2 h)
        · have h := g_f (Bool.eq_false_iff.mp c15) h
          exact q_weak (z_wk_n (z_wk_n (z_wk_n (z_wk_n (z_wk_s (z_wk_0)))))) (t_X10_judge_80 n cx ce x4 S13 h)
def f_X10_judge (n : Nat) (a0 : Int32) (S : z_Stt) : Option (Int32 × z_Stt) :=
  g_bd (f_X10_isShelf a0 S) fun v1 S2 =>
  if v1 = true then
    if ¬ (a0 < 0 ∨ 6 ≤ a0.toNatClampNeg) then
      g_bd (f_X8_refusal (36 + 2 * a0.toNatClampNeg) 1 S2) fun v6 S7 =>
      if v6 = 0 then
        f_X10_judge_31 n n (36 + 2 * a0.toNatClampNeg) 0 S7
      else
        some (v6, S7)
    else none
  else
    some ((-1), S2)
set_option maxHeartbeats 4000000 in
set_option maxRecDepth 100000 in
theorem t_X10_judge {g : z_G} {K : z_K} (n : Nat) {v : Int32} {S' : z_Stt} (cx : z_C g M_X10_judge 6 K) (ce : z_E' g M_X10_judge (z_P g (some (.int v)) S') K) (a0 : Int32) (S : z_Stt) (h : f_X10_judge n a0 S = some (v, S')) : z_At g M_X10_judge K 0 [some (.ref (z_ad g 0)), some (.int a0), none, none, none] [] (hp g S) := by
  unfold f_X10_judge at h
  refine z_iload_n cx rfl rfl dX10_judge_0 ?_
  obtain ⟨v1, S2, e3, h⟩ := g_bd_ex h
  refine q_csi (As := [.int a0]) cx mo_X10_isShelf ms_X10_isShelf tb_198 (by decide) rfl rfl (Nat.le_of_ble_eq_true rfl) dX10_judge_1 (c_X10_isShelf a0 _ e3) ?_
  refine q_ifb_ne (tgt := 9) cx (by decide) dX10_judge_4 (fun c4 => ?_) (fun c4 => ?_)
  · have h := g_t c4 h
    refine z_aload_n cx rfl rfl dX10_judge_9 ?_
    refine q_getF (k := 0) (n := 35) (r := 35) cx z_cl10 (j := 11) (by decide) tb_52 rfl (by decide) rfl rfl rfl dX10_judge_10 ?_
    refine z_iload_n cx rfl rfl dX10_judge_13 ?_
    obtain ⟨c5, h⟩ := g_if h
    refine q_aald_S cx (by decide) rfl c5 dX10_judge_14 ?_
    refine z_astore_n (L' := [some (.ref (z_ad g 0)), some (.int a0), some (.ref (z_ad g (36 + 2 * a0.toNatClampNeg))), none, none]) cx rfl (by decide) rfl dX10_judge_15 ?_
    refine z_aload_n cx rfl rfl dX10_judge_16 ?_
    refine z_iconst (v := 1) cx (by decide +kernel) dX10_judge_17 ?_
    obtain ⟨v6, S7, e8, h⟩ := g_bd_ex h
    refine q_cvi (As := [.int 1]) cx mo_X8_refusal mv_X8_refusal z_cl8 rfl tb_782 (by decide) rfl (wp8_of c5).1 (wp8_of c5).2.1 rfl (Nat.le_of_ble_eq_true rfl) dX10_judge_18 (c_X8_refusal (36 + 2 * a0.toNatClampNeg) 1 _ (wp8_of c5) e8) ?_
    refine z_istore_n (L' := [some (.ref (z_ad g 0)), some (.int a0), some (.ref (z_ad g (36 + 2 * a0.toNatClampNeg))), some (.int v6), none]) cx rfl (by decide) rfl dX10_judge_21 ?_
    refine z_iload_n cx rfl rfl dX10_judge_22 ?_
    refine z_if_eq (tgt := 28) cx (by decide) dX10_judge_23 (fun c9 => ?_) (fun c9 => ?_)
    · have h := g_t c9 h
      refine z_iconst (v := 0) cx (by decide +kernel) dX10_judge_28 ?_
      refine z_istore (L' := [some (.ref (z_ad g 0)), some (.int a0), some (.ref (z_ad g (36 + 2 * a0.toNatClampNeg))), some (.int v6), some (.int 0)]) cx (by decide) rfl dX10_judge_29 ?_
      exact q_weak (z_wk_s (z_wk_n (z_wk_s (z_wk_n (z_wk_s (z_wk_0)))))) (t_X10_judge_31 n cx ce n (36 + 2 * a0.toNatClampNeg) 0 S7 (wp8_of c5) h)
    · have h := g_f c9 h
      refine z_iload_n cx rfl rfl dX10_judge_26 ?_
      obtain ⟨rfl, rfl⟩ := g_some h
      exact z_ireturn cx ce rfl ⟨rfl, rfl⟩ dX10_judge_27
  · have h := g_f (Bool.eq_false_iff.mp c4) h
    refine z_iconst (v := (-1)) cx (by decide +kernel) dX10_judge_7 ?_
    obtain ⟨rfl, rfl⟩ := g_some h
    exact z_ireturn cx ce rfl ⟨rfl, rfl⟩ dX10_judge_8
theorem c_X10_judge {g : z_G} {n : Nat} (a0 : Int32) (S : z_Stt) {v : Int32} {S' : z_Stt} (h : f_X10_judge n a0 S = some (v, S')) : z_Ct g M_X10_judge 6 [.ref (z_ad g 0), .int a0] (hp g S) (z_P g (some (.int v)) S') :=
  z_Ct.of (by decide +kernel) rfl (Nat.le_of_ble_eq_true rfl) (fun K cx ce => q_weak (L' := [some (.ref (z_ad g 0)), some (.int a0), none, none, none]) (z_wk_s (z_wk_s (z_wk_e (z_wk_e (z_wk_e (z_wk_0)))))) (t_X10_judge n cx ce a0 S h))
abbrev M_X10_morning : z_M := (RX10, yX10_morning, cX10_morning, 3, some .int)
theorem mo_X10_morning : z_mo M_X10_morning 2 := ⟨tb_942, tb_2, rfl, ⟨by decide +kernel, by decide +kernel⟩, by decide +kernel, by decide⟩
theorem mv_X10_morning : z_mv M_X10_morning := ⟨tb_940, tb_941⟩
def f_X10_morning_95 (S : z_Stt) : Option (Int32 × z_Stt) :=
  if S.1 3102 = 0 then
    some (0, S)
  else
    some (1, S)
set_option maxHeartbeats 4000000 in
set_option maxRecDepth 100000 in
theorem t_X10_morning_95 {g : z_G} {K : z_K} {v : Int32} {S' : z_Stt} (cx : z_C g M_X10_morning 4 K) (ce : z_E' g M_X10_morning (z_P g (some (.int v)) S') K) (S : z_Stt) (h : f_X10_morning_95 S = some (v, S')) : z_At g M_X10_morning K 95 [some (.ref (z_ad g 0)), none, none] [] (hp g S) := by
  unfold f_X10_morning_95 at h
  refine z_aload_n cx rfl rfl dX10_morning_95 ?_
  refine q_getF (k := 0) (n := 31) (r := 31) cx z_cl10 (j := 9) (by decide) tb_46 rfl (by decide) rfl rfl rfl dX10_morning_96 ?_
  refine q_getI (k := 31) (n := 3102) cx z_cl3 (j := 2) (by decide) tb_846 rfl (by decide) rfl rfl rfl dX10_morning_99 ?_
  refine z_if_eq (tgt := 109) cx (by decide) dX10_morning_102 (fun c1 => ?_) (fun c1 => ?_)
  · have h := g_t c1 h
    refine z_iconst (v := 0) cx (by decide +kernel) dX10_morning_109 ?_
    obtain ⟨rfl, rfl⟩ := g_some h
    exact z_ireturn cx ce rfl ⟨rfl, rfl⟩ dX10_morning_110
  · have h := g_f c1 h
    refine z_iconst (v := 1) cx (by decide +kernel) dX10_morning_105 ?_
    refine z_goto (tgt := 110) cx (by decide) dX10_morning_106 ?_
    obtain ⟨rfl, rfl⟩ := g_some h
    exact z_ireturn cx ce rfl ⟨rfl, rfl⟩ dX10_morning_110
def f_X10_morning (a0 : Int32) (a1 : Int32) (S : z_Stt) : Option (Int32 × z_Stt) :=
  g_bd (f_X10_isThing a0 S) fun v1 S2 =>
  if v1 = true then
    if S2.1 705 < 0 then
      g_let (sI S2 3100 a1) fun S6 =>
      g_bd (f_X9_ofThing 0 a0 S6) fun v8 S9 =>
      g_bd (f_X10_traceOf a0 S9) fun v11 S12 =>
      g_bd (f_X10_staleOf a0 S12) fun v14 S15 =>
      g_bd (f_X3_drawMorning v8 v11 v14 S15) fun v17 S18 =>
      g_let (sI S18 705 a0) fun S20 =>
      if S20.1 3101 = 0 ∨ S20.1 3101 = 1 then
        g_let (sI S20 706 (S20.1 3101)) fun S23 =>
        g_bd (f_X10_isMarked a0 S23) fun v25 S26 =>
        if v25 = true then
          g_bd (f_X1_use 7 a0 S26) fun v29 S30 =>
          f_X10_morning_95 S30
        else
          f_X10_morning_95 S26
      else none
    else
      some ((-5), S2)
  else
    some ((-1), S2)
set_option maxHeartbeats 4000000 in
set_option maxRecDepth 100000 in
theorem t_X10_morning {g : z_G} {K : z_K} {v : Int32} {S' : z_Stt} (cx : z_C g M_X10_morning 4 K) (ce : z_E' g M_X10_morning (z_P g (some (.int v)) S') K) (a0 : Int32) (a1 : Int32) (S : z_Stt) (h : f_X10_morning a0 a1 S = some (v, S')) : z_At g M_X10_morning K 0 [some (.ref (z_ad g 0)), some (.int a0), some (.int a1)] [] (hp g S) := by
  unfold f_X10_morning at h
  refine z_aload_n cx rfl rfl dX10_morning_0 ?_
  refine z_iload_n cx rfl rfl dX10_morning_1 ?_
  obtain ⟨v1, S2, e3, h⟩ := g_bd_ex h
  refine q_cvi (As := [.int a0]) cx mo_X10_isThing mv_X10_isThing z_cl10 rfl tb_303 (by decide) rfl (by decide) rfl rfl (Nat.le_of_ble_eq_true rfl) dX10_morning_2 (c_X10_isThing a0 _ e3) ?_
  refine q_ifb_ne (tgt := 10) cx (by decide) dX10_morning_5 (fun c4 => ?_) (fun c4 => ?_)
  · have h := g_t c4 h
    refine z_aload_n cx rfl rfl dX10_morning_10 ?_
    refine q_getF (k := 0) (n := 7) (r := 7) cx z_cl10 (j := 2) (by decide) tb_24 rfl (by decide) rfl rfl rfl dX10_morning_11 ?_
    refine q_getI (k := 7) (n := 705) cx z_cl1 (j := 5) (by decide) tb_943 rfl (by decide) rfl rfl rfl dX10_morning_14 ?_
    refine z_if_lt (tgt := 23) cx (by decide) dX10_morning_17 (fun c5 => ?_) (fun c5 => ?_)
    · have h := g_t c5 h
      refine z_aload_n cx rfl rfl dX10_morning_23 ?_
      refine q_getF (k := 0) (n := 31) (r := 31) cx z_cl10 (j := 9) (by decide) tb_46 rfl (by decide) rfl rfl rfl dX10_morning_24 ?_
      refine z_iload_n cx rfl rfl dX10_morning_27 ?_
      refine q_putI (k := 31) (n := 3100) cx z_cl3 (j := 0) (by decide) tb_845 rfl rfl rfl (by decide) rfl rfl rfl (by decide) (by decide) dX10_morning_28 ?_
      obtain ⟨S6, e7, h⟩ := g_let_ex h
      rw [← e7]
      refine z_aload_n cx rfl rfl dX10_morning_31 ?_
      refine q_getF (k := 0) (n := 31) (r := 31) cx z_cl10 (j := 9) (by decide) tb_46 rfl (by decide) rfl rfl rfl dX10_morning_32 ?_
      refine z_aload_n cx rfl rfl dX10_morning_35 ?_
      refine q_getF (k := 0) (n := 1) (r := 1) cx z_cl10 (j := 0) (by decide) tb_16 rfl (by decide) rfl rfl rfl dX10_morning_36 ?_
      refine z_iconst (v := 0) cx (by decide +kernel) dX10_morning_39 ?_
      refine z_iload_n cx rfl rfl dX10_morning_40 ?_
      obtain ⟨v8, S9, e10, h⟩ := g_bd_ex h
      refine q_cvi (As := [.int 0, .int a0]) cx mo_X9_ofThing mv_X9_ofThing z_cl9 rfl tb_449 (by decide) rfl (by decide) rfl rfl (Nat.le_of_ble_eq_true rfl) dX10_morning_41 (c_X9_ofThing 0 a0 _ e10) ?_
      refine z_aload_n cx rfl rfl dX10_morning_44 ?_
      refine z_iload_n cx rfl rfl dX10_morning_45 ?_
      obtain ⟨v11, S12, e13, h⟩ := g_bd_ex h
      refine q_cvi (As := [.int a0]) cx mo_X10_traceOf mv_X10_traceOf z_cl10 rfl tb_464 (by decide) rfl (by decide) rfl rfl (Nat.le_of_ble_eq_true rfl) dX10_morning_46 (c_X10_traceOf a0 _ e13) ?_
      refine z_aload_n cx rfl rfl dX10_morning_49 ?_
      refine z_iload_n cx rfl rfl dX10_morning_50 ?_
      obtain ⟨v14, S15, e16, h⟩ := g_bd_ex h
      refine q_cvi (As := [.int a0]) cx mo_X10_staleOf mv_X10_staleOf z_cl10 rfl tb_472 (by decide) rfl (by decide) rfl rfl (Nat.le_of_ble_eq_true rfl) dX10_morning_51 (c_X10_staleOf a0 _ e16) ?_
      obtain ⟨v17, S18, e19, h⟩ := g_bd_ex h
      refine q_cvv (As := [.int v8, .int v11, .int v14]) cx mo_X3_drawMorning mv_X3_drawMorning z_cl3 rfl tb_855 (by decide) rfl (by decide) rfl rfl (Nat.le_of_ble_eq_true rfl) dX10_morning_54 (c_X3_drawMorning v8 v11 v14 _ e19) ?_
      refine z_aload_n cx rfl rfl dX10_morning_57 ?_
      refine q_getF (k := 0) (n := 7) (r := 7) cx z_cl10 (j := 2) (by decide) tb_24 rfl (by decide) rfl rfl rfl dX10_morning_58 ?_
      refine z_iload_n cx rfl rfl dX10_morning_61 ?_
      refine q_putI (k := 7) (n := 705) cx z_cl1 (j := 5) (by decide) tb_943 rfl rfl rfl (by decide) rfl rfl rfl (by decide) (by decide) dX10_morning_62 ?_
      obtain ⟨S20, e21, h⟩ := g_let_ex h
      rw [← e21]
      refine z_aload_n cx rfl rfl dX10_morning_65 ?_
      refine q_getF (k := 0) (n := 7) (r := 7) cx z_cl10 (j := 2) (by decide) tb_24 rfl (by decide) rfl rfl rfl dX10_morning_66 ?_
      refine z_aload_n cx rfl rfl dX10_morning_69 ?_
      refine q_getF (k := 0) (n := 31) (r := 31) cx z_cl10 (j := 9) (by decide) tb_46 rfl (by decide) rfl rfl rfl dX10_morning_70 ?_
      refine q_getI (k := 31) (n := 3101) cx z_cl3 (j := 1) (by decide) tb_847 rfl (by decide) rfl rfl rfl dX10_morning_73 ?_
      obtain ⟨c22, h⟩ := g_if h
      refine q_putZ (k := 7) (n := 706) cx z_cl1 (j := 6) (by decide) tb_944 rfl rfl rfl c22 (by decide) rfl rfl rfl (by decide) (by decide) dX10_morning_76 ?_
      obtain ⟨S23, e24, h⟩ := g_let_ex h
      rw [← e24]
      refine z_aload_n cx rfl rfl dX10_morning_79 ?_
      refine z_iload_n cx rfl rfl dX10_morning_80 ?_
      obtain ⟨v25, S26, e27, h⟩ := g_bd_ex h
      refine q_cvi (As := [.int a0]) cx mo_X10_isMarked mv_X10_isMarked z_cl10 rfl tb_468 (by decide) rfl (by decide) rfl rfl (Nat.le_of_ble_eq_true rfl) dX10_morning_81 (c_X10_isMarked a0 _ e27) ?_
      refine q_ifb_eq (tgt := 95) cx (by decide) dX10_morning_84 (fun c28 => ?_) (fun c28 => ?_)
      · have h := g_f (Bool.eq_false_iff.mp c28) h
        exact q_weak (z_wk_s (z_wk_n (z_wk_n (z_wk_0)))) (t_X10_morning_95 cx ce S26 h)
      · have h := g_t c28 h
        refine z_aload_n cx rfl rfl dX10_morning_87 ?_
        refine q_getF (k := 0) (n := 7) (r := 7) cx z_cl10 (j := 2) (by decide) tb_24 rfl (by decide) rfl rfl rfl dX10_morning_88 ?_
        refine z_iload_n cx rfl rfl dX10_morning_91 ?_
        obtain ⟨v29, S30, e31, h⟩ := g_bd_ex h
        refine q_cvv (As := [.int a0]) cx mo_X1_use mv_X1_use z_cl1 rfl tb_945 (by decide) rfl (by decide) rfl rfl (Nat.le_of_ble_eq_true rfl) dX10_morning_92 (c_X1_use 7 a0 _ wp1_7 e31) ?_
        exact q_weak (z_wk_s (z_wk_n (z_wk_n (z_wk_0)))) (t_X10_morning_95 cx ce S30 h)
    · have h := g_f c5 h
      refine z_bipush (v := (-5)) cx (by decide +kernel) dX10_morning_20 ?_
      obtain ⟨rfl, rfl⟩ := g_some h
      exact z_ireturn cx ce rfl ⟨rfl, rfl⟩ dX10_morning_22
  · have h := g_f (Bool.eq_false_iff.mp c4) h
    refine z_iconst (v := (-1)) cx (by decide +kernel) dX10_morning_8 ?_
    obtain ⟨rfl, rfl⟩ := g_some h
    exact z_ireturn cx ce rfl ⟨rfl, rfl⟩ dX10_morning_9
theorem c_X10_morning {g : z_G} (a0 : Int32) (a1 : Int32) (S : z_Stt) {v : Int32} {S' : z_Stt} (h : f_X10_morning a0 a1 S = some (v, S')) : z_Ct g M_X10_morning 4 [.ref (z_ad g 0), .int a0, .int a1] (hp g S) (z_P g (some (.int v)) S') :=
  z_Ct.of (by decide +kernel) rfl (Nat.le_of_ble_eq_true rfl) (fun K cx ce => q_weak (L' := [some (.ref (z_ad g 0)), some (.int a0), some (.int a1)]) (z_wk_s (z_wk_s (z_wk_s (z_wk_0)))) (t_X10_morning cx ce a0 a1 S h))
abbrev M_X10_goBack : z_M := (RX10, yX10_goBack, cX10_goBack, 3, some .int)
theorem mo_X10_goBack : z_mo M_X10_goBack 1 := ⟨tb_958, tb_2, rfl, ⟨by decide +kernel, by decide +kernel⟩, by decide +kernel, by decide⟩
theorem mv_X10_goBack : z_mv M_X10_goBack := ⟨tb_956, tb_957⟩
def f_X10_goBack (a0 : Int32) (S : z_Stt) : Option (Int32 × z_Stt) :=
  g_bd (f_X10_within a0 99 S) fun v1 S2 =>
  if v1 = true then
    if 0 ≤ S2.1 705 then
      g_bd (f_X10_costOf (S2.1 705) a0 1 (S2.1 706) S2) fun v6 S7 =>
      g_bd (f_X1_end 7 v6 1 S7) fun v9 S10 =>
      some (v6, S10)
    else
      some ((-5), S2)
  else
    some ((-1), S2)
set_option maxHeartbeats 4000000 in
set_option maxRecDepth 100000 in
theorem t_X10_goBack {g : z_G} {K : z_K} {v : Int32} {S' : z_Stt} (cx : z_C g M_X10_goBack 3 K) (ce : z_E' g M_X10_goBack (z_P g (some (.int v)) S') K) (a0 : Int32) (S : z_Stt) (h : f_X10_goBack a0 S = some (v, S')) : z_At g M_X10_goBack K 0 [some (.ref (z_ad g 0)), some (.int a0), none] [] (hp g S) := by
  unfold f_X10_goBack at h
  refine z_iload_n cx rfl rfl dX10_goBack_0 ?_
  refine z_bipush (v := 99) cx (by decide +kernel) dX10_goBack_1 ?_
  obtain ⟨v1, S2, e3, h⟩ := g_bd_ex h
  refine q_csi (As := [.int a0, .int 99]) cx mo_X10_within ms_X10_within tb_171 (by decide) rfl rfl (Nat.le_of_ble_eq_true rfl) dX10_goBack_3 (c_X10_within a0 99 _ e3) ?_
  refine q_ifb_ne (tgt := 11) cx (by decide) dX10_goBack_6 (fun c4 => ?_) (fun c4 => ?_)
  · have h := g_t c4 h
    refine z_aload_n cx rfl rfl dX10_goBack_11 ?_
    refine q_getF (k := 0) (n := 7) (r := 7) cx z_cl10 (j := 2) (by decide) tb_24 rfl (by decide) rfl rfl rfl dX10_goBack_12 ?_
    refine q_getI (k := 7) (n := 705) cx z_cl1 (j := 5) (by decide) tb_943 rfl (by decide) rfl rfl rfl dX10_goBack_15 ?_
    refine z_if_ge (tgt := 24) cx (by decide) dX10_goBack_18 (fun c5 => ?_) (fun c5 => ?_)
    · have h := g_t c5 h
      refine z_aload_n cx rfl rfl dX10_goBack_24 ?_
      refine z_aload_n cx rfl rfl dX10_goBack_25 ?_
      refine q_getF (k := 0) (n := 7) (r := 7) cx z_cl10 (j := 2) (by decide) tb_24 rfl (by decide) rfl rfl rfl dX10_goBack_26 ?_
      refine q_getI (k := 7) (n := 705) cx z_cl1 (j := 5) (by decide) tb_943 rfl (by decide) rfl rfl rfl dX10_goBack_29 ?_
      refine z_iload_n cx rfl rfl dX10_goBack_32 ?_
      refine z_iconst (v := 1) cx (by decide +kernel) dX10_goBack_33 ?_
      refine z_aload_n cx rfl rfl dX10_goBack_34 ?_
      refine q_getF (k := 0) (n := 7) (r := 7) cx z_cl10 (j := 2) (by decide) tb_24 rfl (by decide) rfl rfl rfl dX10_goBack_35 ?_
      refine q_getI (k := 7) (n := 706) cx z_cl1 (j := 6) (by decide) tb_944 rfl (by decide) rfl rfl rfl dX10_goBack_38 ?_
      obtain ⟨v6, S7, e8, h⟩ := g_bd_ex h
      refine q_cvi (As := [.int (S2.1 705), .int a0, .int 1, .int (S2.1 706)]) cx mo_X10_costOf mv_X10_costOf z_cl10 rfl tb_864 (by decide) rfl (by decide) rfl rfl (Nat.le_of_ble_eq_true rfl) dX10_goBack_41 (c_X10_costOf (S2.1 705) a0 1 (S2.1 706) _ e8) ?_
      refine z_istore_n (L' := [some (.ref (z_ad g 0)), some (.int a0), some (.int v6)]) cx rfl (by decide) rfl dX10_goBack_44 ?_
      refine z_aload_n cx rfl rfl dX10_goBack_45 ?_
      refine q_getF (k := 0) (n := 7) (r := 7) cx z_cl10 (j := 2) (by decide) tb_24 rfl (by decide) rfl rfl rfl dX10_goBack_46 ?_
      refine z_iload_n cx rfl rfl dX10_goBack_49 ?_
      refine z_iconst (v := 1) cx (by decide +kernel) dX10_goBack_50 ?_
      obtain ⟨v9, S10, e11, h⟩ := g_bd_ex h
      refine q_cvv (As := [.int v6, .int 1]) cx mo_X1_end mv_X1_end z_cl1 rfl tb_959 (by decide) rfl (by decide) rfl rfl (Nat.le_of_ble_eq_true rfl) dX10_goBack_51 (c_X1_end 7 v6 1 _ wp1_7 e11) ?_
      refine z_iload_n cx rfl rfl dX10_goBack_54 ?_
      obtain ⟨rfl, rfl⟩ := g_some h
      exact z_ireturn cx ce rfl ⟨rfl, rfl⟩ dX10_goBack_55
    · have h := g_f c5 h
      refine z_bipush (v := (-5)) cx (by decide +kernel) dX10_goBack_21 ?_
      obtain ⟨rfl, rfl⟩ := g_some h
      exact z_ireturn cx ce rfl ⟨rfl, rfl⟩ dX10_goBack_23
  · have h := g_f (Bool.eq_false_iff.mp c4) h
    refine z_iconst (v := (-1)) cx (by decide +kernel) dX10_goBack_9 ?_
    obtain ⟨rfl, rfl⟩ := g_some h
    exact z_ireturn cx ce rfl ⟨rfl, rfl⟩ dX10_goBack_10
theorem c_X10_goBack {g : z_G} (a0 : Int32) (S : z_Stt) {v : Int32} {S' : z_Stt} (h : f_X10_goBack a0 S = some (v, S')) : z_Ct g M_X10_goBack 3 [.ref (z_ad g 0), .int a0] (hp g S) (z_P g (some (.int v)) S') :=
  z_Ct.of (by decide +kernel) rfl (Nat.le_of_ble_eq_true rfl) (fun K cx ce => q_weak (L' := [some (.ref (z_ad g 0)), some (.int a0), none]) (z_wk_s (z_wk_s (z_wk_e (z_wk_0)))) (t_X10_goBack cx ce a0 S h))
abbrev M_X10_goOn : z_M := (RX10, yX10_goOn, cX10_goOn, 2, some .int)
theorem mo_X10_goOn : z_mo M_X10_goOn 0 := ⟨tb_975, tb_2, rfl, ⟨by decide +kernel, by decide +kernel⟩, by decide +kernel, by decide⟩
theorem mv_X10_goOn : z_mv M_X10_goOn := ⟨tb_973, tb_974⟩
def f_X10_goOn (S : z_Stt) : Option (Int32 × z_Stt) :=
  if 0 ≤ S.1 705 then
    g_bd (f_X10_costOf (S.1 705) 0 0 (S.1 706) S) fun v2 S3 =>
    g_bd (f_X1_end 7 v2 0 S3) fun v5 S6 =>
    some (v2, S6)
  else
    some ((-5), S)
set_option maxHeartbeats 4000000 in
set_option maxRecDepth 100000 in
theorem t_X10_goOn {g : z_G} {K : z_K} {v : Int32} {S' : z_Stt} (cx : z_C g M_X10_goOn 3 K) (ce : z_E' g M_X10_goOn (z_P g (some (.int v)) S') K) (S : z_Stt) (h : f_X10_goOn S = some (v, S')) : z_At g M_X10_goOn K 0 [some (.ref (z_ad g 0)), none] [] (hp g S) := by
  unfold f_X10_goOn at h
  refine z_aload_n cx rfl rfl dX10_goOn_0 ?_
  refine q_getF (k := 0) (n := 7) (r := 7) cx z_cl10 (j := 2) (by decide) tb_24 rfl (by decide) rfl rfl rfl dX10_goOn_1 ?_
  refine q_getI (k := 7) (n := 705) cx z_cl1 (j := 5) (by decide) tb_943 rfl (by decide) rfl rfl rfl dX10_goOn_4 ?_
  refine z_if_ge (tgt := 13) cx (by decide) dX10_goOn_7 (fun c1 => ?_) (fun c1 => ?_)
  · have h := g_t c1 h
    refine z_aload_n cx rfl rfl dX10_goOn_13 ?_
    refine z_aload_n cx rfl rfl dX10_goOn_14 ?_
    refine q_getF (k := 0) (n := 7) (r := 7) cx z_cl10 (j := 2) (by decide) tb_24 rfl (by decide) rfl rfl rfl dX10_goOn_15 ?_
    refine q_getI (k := 7) (n := 705) cx z_cl1 (j := 5) (by decide) tb_943 rfl (by decide) rfl rfl rfl dX10_goOn_18 ?_
    refine z_iconst (v := 0) cx (by decide +kernel) dX10_goOn_21 ?_
    refine z_iconst (v := 0) cx (by decide +kernel) dX10_goOn_22 ?_
    refine z_aload_n cx rfl rfl dX10_goOn_23 ?_
    refine q_getF (k := 0) (n := 7) (r := 7) cx z_cl10 (j := 2) (by decide) tb_24 rfl (by decide) rfl rfl rfl dX10_goOn_24 ?_
    refine q_getI (k := 7) (n := 706) cx z_cl1 (j := 6) (by decide) tb_944 rfl (by decide) rfl rfl rfl dX10_goOn_27 ?_
    obtain ⟨v2, S3, e4, h⟩ := g_bd_ex h
    refine q_cvi (As := [.int (S.1 705), .int 0, .int 0, .int (S.1 706)]) cx mo_X10_costOf mv_X10_costOf z_cl10 rfl tb_864 (by decide) rfl (by decide) rfl rfl (Nat.le_of_ble_eq_true rfl) dX10_goOn_30 (c_X10_costOf (S.1 705) 0 0 (S.1 706) _ e4) ?_
    refine z_istore_n (L' := [some (.ref (z_ad g 0)), some (.int v2)]) cx rfl (by decide) rfl dX10_goOn_33 ?_
    refine z_aload_n cx rfl rfl dX10_goOn_34 ?_
    refine q_getF (k := 0) (n := 7) (r := 7) cx z_cl10 (j := 2) (by decide) tb_24 rfl (by decide) rfl rfl rfl dX10_goOn_35 ?_
    refine z_iload_n cx rfl rfl dX10_goOn_38 ?_
    refine z_iconst (v := 0) cx (by decide +kernel) dX10_goOn_39 ?_
    obtain ⟨v5, S6, e7, h⟩ := g_bd_ex h
    refine q_cvv (As := [.int v2, .int 0]) cx mo_X1_end mv_X1_end z_cl1 rfl tb_959 (by decide) rfl (by decide) rfl rfl (Nat.le_of_ble_eq_true rfl) dX10_goOn_40 (c_X1_end 7 v2 0 _ wp1_7 e7) ?_
    refine z_iload_n cx rfl rfl dX10_goOn_43 ?_
    obtain ⟨rfl, rfl⟩ := g_some h
    exact z_ireturn cx ce rfl ⟨rfl, rfl⟩ dX10_goOn_44
  · have h := g_f c1 h
    refine z_bipush (v := (-5)) cx (by decide +kernel) dX10_goOn_10 ?_
    obtain ⟨rfl, rfl⟩ := g_some h
    exact z_ireturn cx ce rfl ⟨rfl, rfl⟩ dX10_goOn_12
theorem c_X10_goOn {g : z_G} (S : z_Stt) {v : Int32} {S' : z_Stt} (h : f_X10_goOn S = some (v, S')) : z_Ct g M_X10_goOn 3 [.ref (z_ad g 0)] (hp g S) (z_P g (some (.int v)) S') :=
  z_Ct.of (by decide +kernel) rfl (Nat.le_of_ble_eq_true rfl) (fun K cx ce => q_weak (L' := [some (.ref (z_ad g 0)), none]) (z_wk_s (z_wk_e (z_wk_0))) (t_X10_goOn cx ce S h))
abbrev M_X10_dayOff : z_M := (RX10, yX10_dayOff, cX10_dayOff, 1, some .int)
theorem mo_X10_dayOff : z_mo M_X10_dayOff 0 := ⟨tb_983, tb_2, rfl, ⟨by decide +kernel, by decide +kernel⟩, by decide +kernel, by decide⟩
theorem mv_X10_dayOff : z_mv M_X10_dayOff := ⟨tb_981, tb_982⟩
def f_X10_dayOff (n : Nat) (S : z_Stt) : Option (Int32 × z_Stt) :=
  g_bd (f_X1_rest n 7 S) fun v1 S2 =>
  some (v1, S2)
set_option maxHeartbeats 4000000 in
set_option maxRecDepth 100000 in
theorem t_X10_dayOff {g : z_G} {K : z_K} (n : Nat) {v : Int32} {S' : z_Stt} (cx : z_C g M_X10_dayOff 1 K) (ce : z_E' g M_X10_dayOff (z_P g (some (.int v)) S') K) (S : z_Stt) (h : f_X10_dayOff n S = some (v, S')) : z_At g M_X10_dayOff K 0 [some (.ref (z_ad g 0))] [] (hp g S) := by
  unfold f_X10_dayOff at h
  refine z_aload_n cx rfl rfl dX10_dayOff_0 ?_
  refine q_getF (k := 0) (n := 7) (r := 7) cx z_cl10 (j := 2) (by decide) tb_24 rfl (by decide) rfl rfl rfl dX10_dayOff_1 ?_
  obtain ⟨v1, S2, e3, h⟩ := g_bd_ex h
  refine q_cvi (As := []) cx mo_X1_rest mv_X1_rest z_cl1 rfl tb_984 (by decide) rfl (by decide) rfl rfl (Nat.le_of_ble_eq_true rfl) dX10_dayOff_4 (c_X1_rest 7 _ wp1_7 e3) ?_
  obtain ⟨rfl, rfl⟩ := g_some h
  exact z_ireturn cx ce rfl ⟨rfl, rfl⟩ dX10_dayOff_7
theorem c_X10_dayOff {g : z_G} {n : Nat} (S : z_Stt) {v : Int32} {S' : z_Stt} (h : f_X10_dayOff n S = some (v, S')) : z_Ct g M_X10_dayOff 1 [.ref (z_ad g 0)] (hp g S) (z_P g (some (.int v)) S') :=
  z_Ct.of (by decide +kernel) rfl (Nat.le_of_ble_eq_true rfl) (fun K cx ce => q_weak (L' := [some (.ref (z_ad g 0))]) (z_wk_s (z_wk_0)) (t_X10_dayOff n cx ce S h))
abbrev M_X10_led : z_M := (RX10, yX10_led, cX10_led, 2, some .int)
theorem mo_X10_led : z_mo M_X10_led 1 := ⟨tb_995, tb_2, rfl, ⟨by decide +kernel, by decide +kernel⟩, by decide +kernel, by decide⟩
theorem mv_X10_led : z_mv M_X10_led := ⟨tb_993, tb_994⟩
def f_X10_led (a0 : Int32) (S : z_Stt) : Option (Int32 × z_Stt) :=
  g_bd (f_X10_within a0 4 S) fun v1 S2 =>
  if v1 = true then
    if ¬ (a0 < 0 ∨ 5 ≤ a0.toNatClampNeg) then
      some (S2.2.2.1 9 a0.toNatClampNeg, S2)
    else none
  else
    some ((-1), S2)
set_option maxHeartbeats 4000000 in
set_option maxRecDepth 100000 in
theorem t_X10_led {g : z_G} {K : z_K} {v : Int32} {S' : z_Stt} (cx : z_C g M_X10_led 1 K) (ce : z_E' g M_X10_led (z_P g (some (.int v)) S') K) (a0 : Int32) (S : z_Stt) (h : f_X10_led a0 S = some (v, S')) : z_At g M_X10_led K 0 [some (.ref (z_ad g 0)), some (.int a0)] [] (hp g S) := by
  unfold f_X10_led at h
  refine z_iload_n cx rfl rfl dX10_led_0 ?_
  refine z_iconst (v := 4) cx (by decide +kernel) dX10_led_1 ?_
  obtain ⟨v1, S2, e3, h⟩ := g_bd_ex h
  refine q_csi (As := [.int a0, .int 4]) cx mo_X10_within ms_X10_within tb_171 (by decide) rfl rfl (Nat.le_of_ble_eq_true rfl) dX10_led_2 (c_X10_within a0 4 _ e3) ?_
  refine q_ifb_eq (tgt := 20) cx (by decide) dX10_led_5 (fun c4 => ?_) (fun c4 => ?_)
  · have h := g_f (Bool.eq_false_iff.mp c4) h
    refine z_iconst (v := (-1)) cx (by decide +kernel) dX10_led_20 ?_
    obtain ⟨rfl, rfl⟩ := g_some h
    exact z_ireturn cx ce rfl ⟨rfl, rfl⟩ dX10_led_21
  · have h := g_t c4 h
    refine z_aload_n cx rfl rfl dX10_led_8 ?_
    refine q_getF (k := 0) (n := 7) (r := 7) cx z_cl10 (j := 2) (by decide) tb_24 rfl (by decide) rfl rfl rfl dX10_led_9 ?_
    refine q_getF (k := 7) (n := 9) (r := 2) cx z_cl1 (j := 4) (by decide) tb_996 rfl (by decide) rfl rfl rfl dX10_led_12 ?_
    refine z_iload_n cx rfl rfl dX10_led_15 ?_
    obtain ⟨c5, h⟩ := g_if h
    refine q_iald cx (by decide) rfl c5 dX10_led_16 ?_
    refine z_goto (tgt := 21) cx (by decide) dX10_led_17 ?_
    obtain ⟨rfl, rfl⟩ := g_some h
    exact z_ireturn cx ce rfl ⟨rfl, rfl⟩ dX10_led_21
theorem c_X10_led {g : z_G} (a0 : Int32) (S : z_Stt) {v : Int32} {S' : z_Stt} (h : f_X10_led a0 S = some (v, S')) : z_Ct g M_X10_led 1 [.ref (z_ad g 0), .int a0] (hp g S) (z_P g (some (.int v)) S') :=
  z_Ct.of (by decide +kernel) rfl (Nat.le_of_ble_eq_true rfl) (fun K cx ce => q_weak (L' := [some (.ref (z_ad g 0)), some (.int a0)]) (z_wk_s (z_wk_s (z_wk_0))) (t_X10_led cx ce a0 S h))
abbrev M_X10_image : z_M := (RX10, yX10_image, cX10_image, 1, some .int)
theorem mo_X10_image : z_mo M_X10_image 0 := ⟨tb_1004, tb_2, rfl, ⟨by decide +kernel, by decide +kernel⟩, by decide +kernel, by decide⟩
theorem mv_X10_image : z_mv M_X10_image := ⟨tb_1002, tb_1003⟩
def f_X10_image (n : Nat) (S : z_Stt) : Option (Int32 × z_Stt) :=
  g_bd (f_X1_copy n 10 7 S) fun v1 S2 =>
  g_let (sI S2 4 1) fun S4 =>
  if ¬ ((0 : Int32) < 0 ∨ 5 ≤ (0 : Int32).toNatClampNeg) then
    some (S4.2.2.1 9 (0 : Int32).toNatClampNeg, S4)
  else none
set_option maxHeartbeats 4000000 in
set_option maxRecDepth 100000 in
theorem t_X10_image {g : z_G} {K : z_K} (n : Nat) {v : Int32} {S' : z_Stt} (cx : z_C g M_X10_image 1 K) (ce : z_E' g M_X10_image (z_P g (some (.int v)) S') K) (S : z_Stt) (h : f_X10_image n S = some (v, S')) : z_At g M_X10_image K 0 [some (.ref (z_ad g 0))] [] (hp g S) := by
  unfold f_X10_image at h
  refine z_aload_n cx rfl rfl dX10_image_0 ?_
  refine q_getF (k := 0) (n := 10) (r := 10) cx z_cl10 (j := 3) (by decide) tb_25 rfl (by decide) rfl rfl rfl dX10_image_1 ?_
  refine z_aload_n cx rfl rfl dX10_image_4 ?_
  refine q_getF (k := 0) (n := 7) (r := 7) cx z_cl10 (j := 2) (by decide) tb_24 rfl (by decide) rfl rfl rfl dX10_image_5 ?_
  obtain ⟨v1, S2, e3, h⟩ := g_bd_ex h
  refine q_cvv (As := [.ref (z_ad g 7)]) cx mo_X1_copy mv_X1_copy z_cl1 rfl tb_1005 (by decide) rfl (by decide) rfl rfl (Nat.le_of_ble_eq_true rfl) dX10_image_8 (c_X1_copy 10 7 _ wp1_10 wp1_7 e3) ?_
  refine z_aload_n cx rfl rfl dX10_image_11 ?_
  refine z_iconst (v := 1) cx (by decide +kernel) dX10_image_12 ?_
  refine q_putZ (k := 0) (n := 4) cx z_cl10 (j := 4) (by decide) tb_26 rfl rfl rfl (by decide +kernel) (by decide) rfl rfl rfl (by decide) (by decide) dX10_image_13 ?_
  obtain ⟨S4, e5, h⟩ := g_let_ex h
  rw [← e5]
  refine z_aload_n cx rfl rfl dX10_image_16 ?_
  refine q_getF (k := 0) (n := 7) (r := 7) cx z_cl10 (j := 2) (by decide) tb_24 rfl (by decide) rfl rfl rfl dX10_image_17 ?_
  refine q_getF (k := 7) (n := 9) (r := 2) cx z_cl1 (j := 4) (by decide) tb_996 rfl (by decide) rfl rfl rfl dX10_image_20 ?_
  refine z_iconst (v := 0) cx (by decide +kernel) dX10_image_23 ?_
  obtain ⟨c6, h⟩ := g_if h
  refine q_iald cx (by decide) rfl c6 dX10_image_24 ?_
  obtain ⟨rfl, rfl⟩ := g_some h
  exact z_ireturn cx ce rfl ⟨rfl, rfl⟩ dX10_image_25
theorem c_X10_image {g : z_G} {n : Nat} (S : z_Stt) {v : Int32} {S' : z_Stt} (h : f_X10_image n S = some (v, S')) : z_Ct g M_X10_image 1 [.ref (z_ad g 0)] (hp g S) (z_P g (some (.int v)) S') :=
  z_Ct.of (by decide +kernel) rfl (Nat.le_of_ble_eq_true rfl) (fun K cx ce => q_weak (L' := [some (.ref (z_ad g 0))]) (z_wk_s (z_wk_0)) (t_X10_image n cx ce S h))
abbrev M_X10_back : z_M := (RX10, yX10_back, cX10_back, 1, some .int)
theorem mo_X10_back : z_mo M_X10_back 0 := ⟨tb_1018, tb_2, rfl, ⟨by decide +kernel, by decide +kernel⟩, by decide +kernel, by decide⟩
theorem mv_X10_back : z_mv M_X10_back := ⟨tb_1016, tb_1017⟩
def f_X10_back (n : Nat) (S : z_Stt) : Option (Int32 × z_Stt) :=
  if S.1 4 = 0 then
    some ((-5), S)
  else
    g_bd (f_X1_copy n 7 10 S) fun v2 S3 =>
    if ¬ ((0 : Int32) < 0 ∨ 5 ≤ (0 : Int32).toNatClampNeg) then
      some (S3.2.2.1 9 (0 : Int32).toNatClampNeg, S3)
    else none
set_option maxHeartbeats 4000000 in
set_option maxRecDepth 100000 in
theorem t_X10_back {g : z_G} {K : z_K} (n : Nat) {v : Int32} {S' : z_Stt} (cx : z_C g M_X10_back 1 K) (ce : z_E' g M_X10_back (z_P g (some (.int v)) S') K) (S : z_Stt) (h : f_X10_back n S = some (v, S')) : z_At g M_X10_back K 0 [some (.ref (z_ad g 0))] [] (hp g S) := by
  unfold f_X10_back at h
  refine z_aload_n cx rfl rfl dX10_back_0 ?_
  refine q_getI (k := 0) (n := 4) cx z_cl10 (j := 4) (by decide) tb_26 rfl (by decide) rfl rfl rfl dX10_back_1 ?_
  refine z_if_ne (tgt := 10) cx (by decide) dX10_back_4 (fun c1 => ?_) (fun c1 => ?_)
  · have h := g_f c1 h
    refine z_aload_n cx rfl rfl dX10_back_10 ?_
    refine q_getF (k := 0) (n := 7) (r := 7) cx z_cl10 (j := 2) (by decide) tb_24 rfl (by decide) rfl rfl rfl dX10_back_11 ?_
    refine z_aload_n cx rfl rfl dX10_back_14 ?_
    refine q_getF (k := 0) (n := 10) (r := 10) cx z_cl10 (j := 3) (by decide) tb_25 rfl (by decide) rfl rfl rfl dX10_back_15 ?_
    obtain ⟨v2, S3, e4, h⟩ := g_bd_ex h
    refine q_cvv (As := [.ref (z_ad g 10)]) cx mo_X1_copy mv_X1_copy z_cl1 rfl tb_1005 (by decide) rfl (by decide) rfl rfl (Nat.le_of_ble_eq_true rfl) dX10_back_18 (c_X1_copy 7 10 _ wp1_7 wp1_10 e4) ?_
    refine z_aload_n cx rfl rfl dX10_back_21 ?_
    refine q_getF (k := 0) (n := 7) (r := 7) cx z_cl10 (j := 2) (by decide) tb_24 rfl (by decide) rfl rfl rfl dX10_back_22 ?_
    refine q_getF (k := 7) (n := 9) (r := 2) cx z_cl1 (j := 4) (by decide) tb_996 rfl (by decide) rfl rfl rfl dX10_back_25 ?_
    refine z_iconst (v := 0) cx (by decide +kernel) dX10_back_28 ?_
    obtain ⟨c5, h⟩ := g_if h
    refine q_iald cx (by decide) rfl c5 dX10_back_29 ?_
    obtain ⟨rfl, rfl⟩ := g_some h
    exact z_ireturn cx ce rfl ⟨rfl, rfl⟩ dX10_back_30
  · have h := g_t c1 h
    refine z_bipush (v := (-5)) cx (by decide +kernel) dX10_back_7 ?_
    obtain ⟨rfl, rfl⟩ := g_some h
    exact z_ireturn cx ce rfl ⟨rfl, rfl⟩ dX10_back_9
theorem c_X10_back {g : z_G} {n : Nat} (S : z_Stt) {v : Int32} {S' : z_Stt} (h : f_X10_back n S = some (v, S')) : z_Ct g M_X10_back 1 [.ref (z_ad g 0)] (hp g S) (z_P g (some (.int v)) S') :=
  z_Ct.of (by decide +kernel) rfl (Nat.le_of_ble_eq_true rfl) (fun K cx ce => q_weak (L' := [some (.ref (z_ad g 0))]) (z_wk_s (z_wk_0)) (t_X10_back n cx ce S h))
abbrev M_X10_undo : z_M := (RX10, yX10_undo, cX10_undo, 1, some .int)
theorem mo_X10_undo : z_mo M_X10_undo 0 := ⟨tb_1026, tb_2, rfl, ⟨by decide +kernel, by decide +kernel⟩, by decide +kernel, by decide⟩
theorem mv_X10_undo : z_mv M_X10_undo := ⟨tb_1024, tb_1025⟩
def f_X10_undo (S : z_Stt) : Option (Int32 × z_Stt) :=
  if S.1 304 = 0 then
    some ((-5), S)
  else
    g_bd (f_X0_takeBack S) fun v2 S3 =>
    some (S3.1 304, S3)
set_option maxHeartbeats 4000000 in
set_option maxRecDepth 100000 in
theorem t_X10_undo {g : z_G} {K : z_K} {v : Int32} {S' : z_Stt} (cx : z_C g M_X10_undo 2 K) (ce : z_E' g M_X10_undo (z_P g (some (.int v)) S') K) (S : z_Stt) (h : f_X10_undo S = some (v, S')) : z_At g M_X10_undo K 0 [some (.ref (z_ad g 0))] [] (hp g S) := by
  unfold f_X10_undo at h
  refine z_aload_n cx rfl rfl dX10_undo_0 ?_
  refine q_getF (k := 0) (n := 3) (r := 3) cx z_cl10 (j := 1) (by decide) tb_20 rfl (by decide) rfl rfl rfl dX10_undo_1 ?_
  refine q_getI (k := 3) (n := 304) cx z_cl0 (j := 4) (by decide) tb_1027 rfl (by decide) rfl rfl rfl dX10_undo_4 ?_
  refine z_if_ne (tgt := 13) cx (by decide) dX10_undo_7 (fun c1 => ?_) (fun c1 => ?_)
  · have h := g_f c1 h
    refine z_aload_n cx rfl rfl dX10_undo_13 ?_
    refine q_getF (k := 0) (n := 3) (r := 3) cx z_cl10 (j := 1) (by decide) tb_20 rfl (by decide) rfl rfl rfl dX10_undo_14 ?_
    refine z_aload_n cx rfl rfl dX10_undo_17 ?_
    refine q_getF (k := 0) (n := 1) (r := 1) cx z_cl10 (j := 0) (by decide) tb_16 rfl (by decide) rfl rfl rfl dX10_undo_18 ?_
    obtain ⟨v2, S3, e4, h⟩ := g_bd_ex h
    refine q_cvv (As := [.ref (z_ad g 1)]) cx mo_X0_takeBack mv_X0_takeBack z_cl0 rfl tb_1028 (by decide) rfl (by decide) rfl rfl (Nat.le_of_ble_eq_true rfl) dX10_undo_21 (c_X0_takeBack  _ e4) ?_
    refine z_aload_n cx rfl rfl dX10_undo_24 ?_
    refine q_getF (k := 0) (n := 3) (r := 3) cx z_cl10 (j := 1) (by decide) tb_20 rfl (by decide) rfl rfl rfl dX10_undo_25 ?_
    refine q_getI (k := 3) (n := 304) cx z_cl0 (j := 4) (by decide) tb_1027 rfl (by decide) rfl rfl rfl dX10_undo_28 ?_
    obtain ⟨rfl, rfl⟩ := g_some h
    exact z_ireturn cx ce rfl ⟨rfl, rfl⟩ dX10_undo_31
  · have h := g_t c1 h
    refine z_bipush (v := (-5)) cx (by decide +kernel) dX10_undo_10 ?_
    obtain ⟨rfl, rfl⟩ := g_some h
    exact z_ireturn cx ce rfl ⟨rfl, rfl⟩ dX10_undo_12
theorem c_X10_undo {g : z_G} (S : z_Stt) {v : Int32} {S' : z_Stt} (h : f_X10_undo S = some (v, S')) : z_Ct g M_X10_undo 2 [.ref (z_ad g 0)] (hp g S) (z_P g (some (.int v)) S') :=
  z_Ct.of (by decide +kernel) rfl (Nat.le_of_ble_eq_true rfl) (fun K cx ce => q_weak (L' := [some (.ref (z_ad g 0))]) (z_wk_s (z_wk_0)) (t_X10_undo cx ce S h))
abbrev M_X10_redo : z_M := (RX10, yX10_redo, cX10_redo, 1, some .int)
theorem mo_X10_redo : z_mo M_X10_redo 0 := ⟨tb_1040, tb_2, rfl, ⟨by decide +kernel, by decide +kernel⟩, by decide +kernel, by decide⟩
theorem mv_X10_redo : z_mv M_X10_redo := ⟨tb_1038, tb_1039⟩
def f_X10_redo (S : z_Stt) : Option (Int32 × z_Stt) :=
  if S.1 304 = S.1 303 then
    some ((-5), S)
  else
    g_bd (f_X0_doAgain S) fun v2 S3 =>
    some ((S3.1 303) - (S3.1 304), S3)
set_option maxHeartbeats 4000000 in
set_option maxRecDepth 100000 in
theorem t_X10_redo {g : z_G} {K : z_K} {v : Int32} {S' : z_Stt} (cx : z_C g M_X10_redo 2 K) (ce : z_E' g M_X10_redo (z_P g (some (.int v)) S') K) (S : z_Stt) (h : f_X10_redo S = some (v, S')) : z_At g M_X10_redo K 0 [some (.ref (z_ad g 0))] [] (hp g S) := by
  unfold f_X10_redo at h
  refine z_aload_n cx rfl rfl dX10_redo_0 ?_
  refine q_getF (k := 0) (n := 3) (r := 3) cx z_cl10 (j := 1) (by decide) tb_20 rfl (by decide) rfl rfl rfl dX10_redo_1 ?_
  refine q_getI (k := 3) (n := 304) cx z_cl0 (j := 4) (by decide) tb_1027 rfl (by decide) rfl rfl rfl dX10_redo_4 ?_
  refine z_aload_n cx rfl rfl dX10_redo_7 ?_
  refine q_getF (k := 0) (n := 3) (r := 3) cx z_cl10 (j := 1) (by decide) tb_20 rfl (by decide) rfl rfl rfl dX10_redo_8 ?_
  refine q_getI (k := 3) (n := 303) cx z_cl0 (j := 3) (by decide) tb_1041 rfl (by decide) rfl rfl rfl dX10_redo_11 ?_
  refine z_icmp_ne (tgt := 20) cx (by decide) dX10_redo_14 (fun c1 => ?_) (fun c1 => ?_)
  · have h := g_f c1 h
    refine z_aload_n cx rfl rfl dX10_redo_20 ?_
    refine q_getF (k := 0) (n := 3) (r := 3) cx z_cl10 (j := 1) (by decide) tb_20 rfl (by decide) rfl rfl rfl dX10_redo_21 ?_
    refine z_aload_n cx rfl rfl dX10_redo_24 ?_
    refine q_getF (k := 0) (n := 1) (r := 1) cx z_cl10 (j := 0) (by decide) tb_16 rfl (by decide) rfl rfl rfl dX10_redo_25 ?_
    obtain ⟨v2, S3, e4, h⟩ := g_bd_ex h
    refine q_cvv (As := [.ref (z_ad g 1)]) cx mo_X0_doAgain mv_X0_doAgain z_cl0 rfl tb_1042 (by decide) rfl (by decide) rfl rfl (Nat.le_of_ble_eq_true rfl) dX10_redo_28 (c_X0_doAgain  _ e4) ?_
    refine z_aload_n cx rfl rfl dX10_redo_31 ?_
    refine q_getF (k := 0) (n := 3) (r := 3) cx z_cl10 (j := 1) (by decide) tb_20 rfl (by decide) rfl rfl rfl dX10_redo_32 ?_
    refine q_getI (k := 3) (n := 303) cx z_cl0 (j := 3) (by decide) tb_1041 rfl (by decide) rfl rfl rfl dX10_redo_35 ?_
    refine z_aload_n cx rfl rfl dX10_redo_38 ?_
    refine q_getF (k := 0) (n := 3) (r := 3) cx z_cl10 (j := 1) (by decide) tb_20 rfl (by decide) rfl rfl rfl dX10_redo_39 ?_
    refine q_getI (k := 3) (n := 304) cx z_cl0 (j := 4) (by decide) tb_1027 rfl (by decide) rfl rfl rfl dX10_redo_42 ?_
    refine z_isub cx dX10_redo_45 ?_
    obtain ⟨rfl, rfl⟩ := g_some h
    exact z_ireturn cx ce rfl ⟨rfl, rfl⟩ dX10_redo_46
  · have h := g_t c1 h
    refine z_bipush (v := (-5)) cx (by decide +kernel) dX10_redo_17 ?_
    obtain ⟨rfl, rfl⟩ := g_some h
    exact z_ireturn cx ce rfl ⟨rfl, rfl⟩ dX10_redo_19
theorem c_X10_redo {g : z_G} (S : z_Stt) {v : Int32} {S' : z_Stt} (h : f_X10_redo S = some (v, S')) : z_Ct g M_X10_redo 2 [.ref (z_ad g 0)] (hp g S) (z_P g (some (.int v)) S') :=
  z_Ct.of (by decide +kernel) rfl (Nat.le_of_ble_eq_true rfl) (fun K cx ce => q_weak (L' := [some (.ref (z_ad g 0))]) (z_wk_s (z_wk_0)) (t_X10_redo cx ce S h))
abbrev M_X10_body : z_M := (RX10, yX10_body, cX10_body, 2, some .int)
theorem mo_X10_body : z_mo M_X10_body 1 := ⟨tb_1053, tb_2, rfl, ⟨by decide +kernel, by decide +kernel⟩, by decide +kernel, by decide⟩
theorem mv_X10_body : z_mv M_X10_body := ⟨tb_1051, tb_1052⟩
def f_X10_body (a0 : Int32) (S : z_Stt) : Option (Int32 × z_Stt) :=
  g_bd (f_X10_within a0 7 S) fun v1 S2 =>
  if v1 = true then
    if S2.1 3201 < 50 then
      g_bd (f_X5_come a0 S2) fun v6 S7 =>
      some (v6, S7)
    else
      some ((-3), S2)
  else
    some ((-1), S2)
set_option maxHeartbeats 4000000 in
set_option maxRecDepth 100000 in
theorem t_X10_body {g : z_G} {K : z_K} {v : Int32} {S' : z_Stt} (cx : z_C g M_X10_body 1 K) (ce : z_E' g M_X10_body (z_P g (some (.int v)) S') K) (a0 : Int32) (S : z_Stt) (h : f_X10_body a0 S = some (v, S')) : z_At g M_X10_body K 0 [some (.ref (z_ad g 0)), some (.int a0)] [] (hp g S) := by
  unfold f_X10_body at h
  refine z_iload_n cx rfl rfl dX10_body_0 ?_
  refine z_bipush (v := 7) cx (by decide +kernel) dX10_body_1 ?_
  obtain ⟨v1, S2, e3, h⟩ := g_bd_ex h
  refine q_csi (As := [.int a0, .int 7]) cx mo_X10_within ms_X10_within tb_171 (by decide) rfl rfl (Nat.le_of_ble_eq_true rfl) dX10_body_3 (c_X10_within a0 7 _ e3) ?_
  refine q_ifb_ne (tgt := 11) cx (by decide) dX10_body_6 (fun c4 => ?_) (fun c4 => ?_)
  · have h := g_t c4 h
    refine z_aload_n cx rfl rfl dX10_body_11 ?_
    refine q_getF (k := 0) (n := 32) (r := 32) cx z_cl10 (j := 10) (by decide) tb_50 rfl (by decide) rfl rfl rfl dX10_body_12 ?_
    refine q_getI (k := 32) (n := 3201) cx z_cl5 (j := 1) (by decide) tb_1054 rfl (by decide) rfl rfl rfl dX10_body_15 ?_
    refine z_bipush (v := 50) cx (by decide +kernel) dX10_body_18 ?_
    refine z_icmp_lt (tgt := 26) cx (by decide) dX10_body_20 (fun c5 => ?_) (fun c5 => ?_)
    · have h := g_t c5 h
      refine z_aload_n cx rfl rfl dX10_body_26 ?_
      refine q_getF (k := 0) (n := 32) (r := 32) cx z_cl10 (j := 10) (by decide) tb_50 rfl (by decide) rfl rfl rfl dX10_body_27 ?_
      refine z_iload_n cx rfl rfl dX10_body_30 ?_
      obtain ⟨v6, S7, e8, h⟩ := g_bd_ex h
      refine q_cvi (As := [.int a0]) cx mo_X5_come mv_X5_come z_cl5 rfl tb_1055 (by decide) rfl (by decide) rfl rfl (Nat.le_of_ble_eq_true rfl) dX10_body_31 (c_X5_come a0 _ e8) ?_
      obtain ⟨rfl, rfl⟩ := g_some h
      exact z_ireturn cx ce rfl ⟨rfl, rfl⟩ dX10_body_34
    · have h := g_f c5 h
      refine z_bipush (v := (-3)) cx (by decide +kernel) dX10_body_23 ?_
      obtain ⟨rfl, rfl⟩ := g_some h
      exact z_ireturn cx ce rfl ⟨rfl, rfl⟩ dX10_body_25
  · have h := g_f (Bool.eq_false_iff.mp c4) h
    refine z_iconst (v := (-1)) cx (by decide +kernel) dX10_body_9 ?_
    obtain ⟨rfl, rfl⟩ := g_some h
    exact z_ireturn cx ce rfl ⟨rfl, rfl⟩ dX10_body_10
theorem c_X10_body {g : z_G} (a0 : Int32) (S : z_Stt) {v : Int32} {S' : z_Stt} (h : f_X10_body a0 S = some (v, S')) : z_Ct g M_X10_body 1 [.ref (z_ad g 0), .int a0] (hp g S) (z_P g (some (.int v)) S') :=
  z_Ct.of (by decide +kernel) rfl (Nat.le_of_ble_eq_true rfl) (fun K cx ce => q_weak (L' := [some (.ref (z_ad g 0)), some (.int a0)]) (z_wk_s (z_wk_s (z_wk_0))) (t_X10_body cx ce a0 S h))
abbrev M_X10_isGoer : z_M := (RX10, yX10_isGoer, cX10_isGoer, 2, some .boolean)
theorem mo_X10_isGoer : z_mo M_X10_isGoer 1 := ⟨tb_1072, tb_2, rfl, ⟨by decide +kernel, by decide +kernel⟩, by decide +kernel, by decide⟩
theorem mv_X10_isGoer : z_mv M_X10_isGoer := ⟨tb_1070, tb_1071⟩
def f_X10_isGoer (a0 : Int32) (S : z_Stt) : Option (Bool × z_Stt) :=
  if a0 < 0 then
    some (false, S)
  else
    if S.1 3201 ≤ a0 then
      some (false, S)
    else
      some (true, S)
set_option maxHeartbeats 4000000 in
set_option maxRecDepth 100000 in
theorem t_X10_isGoer {g : z_G} {K : z_K} {v : Bool} {S' : z_Stt} (cx : z_C g M_X10_isGoer 0 K) (ce : z_E' g M_X10_isGoer (z_P g (some (.int (bI v))) S') K) (a0 : Int32) (S : z_Stt) (h : f_X10_isGoer a0 S = some (v, S')) : z_At g M_X10_isGoer K 0 [some (.ref (z_ad g 0)), some (.int a0)] [] (hp g S) := by
  unfold f_X10_isGoer at h
  refine z_iload_n cx rfl rfl dX10_isGoer_0 ?_
  refine z_if_lt (tgt := 19) cx (by decide) dX10_isGoer_1 (fun c1 => ?_) (fun c1 => ?_)
  · have h := g_t c1 h
    refine z_iconst (v := 0) cx (by decide +kernel) dX10_isGoer_19 ?_
    obtain ⟨rfl, rfl⟩ := g_some h
    exact z_zreturn cx ce rfl (by decide +kernel) ⟨rfl, rfl⟩ dX10_isGoer_20
  · have h := g_f c1 h
    refine z_iload_n cx rfl rfl dX10_isGoer_4 ?_
    refine z_aload_n cx rfl rfl dX10_isGoer_5 ?_
    refine q_getF (k := 0) (n := 32) (r := 32) cx z_cl10 (j := 10) (by decide) tb_50 rfl (by decide) rfl rfl rfl dX10_isGoer_6 ?_
    refine q_getI (k := 32) (n := 3201) cx z_cl5 (j := 1) (by decide) tb_1054 rfl (by decide) rfl rfl rfl dX10_isGoer_9 ?_
    refine z_icmp_ge (tgt := 19) cx (by decide) dX10_isGoer_12 (fun c2 => ?_) (fun c2 => ?_)
    · have h := g_t c2 h
      refine z_iconst (v := 0) cx (by decide +kernel) dX10_isGoer_19 ?_
      obtain ⟨rfl, rfl⟩ := g_some h
      exact z_zreturn cx ce rfl (by decide +kernel) ⟨rfl, rfl⟩ dX10_isGoer_20
    · have h := g_f c2 h
      refine z_iconst (v := 1) cx (by decide +kernel) dX10_isGoer_15 ?_
      refine z_goto (tgt := 20) cx (by decide) dX10_isGoer_16 ?_
      obtain ⟨rfl, rfl⟩ := g_some h
      exact z_zreturn cx ce rfl (by decide +kernel) ⟨rfl, rfl⟩ dX10_isGoer_20
theorem c_X10_isGoer {g : z_G} (a0 : Int32) (S : z_Stt) {v : Bool} {S' : z_Stt} (h : f_X10_isGoer a0 S = some (v, S')) : z_Ct g M_X10_isGoer 0 [.ref (z_ad g 0), .int a0] (hp g S) (z_P g (some (.int (bI v))) S') :=
  z_Ct.of (by decide +kernel) rfl (Nat.le_of_ble_eq_true rfl) (fun K cx ce => q_weak (L' := [some (.ref (z_ad g 0)), some (.int a0)]) (z_wk_s (z_wk_s (z_wk_0))) (t_X10_isGoer cx ce a0 S h))
abbrev M_X10_act : z_M := (RX10, yX10_act, cX10_act, 4, some .int)
theorem mo_X10_act : z_mo M_X10_act 3 := ⟨tb_1067, tb_2, rfl, ⟨by decide +kernel, by decide +kernel⟩, by decide +kernel, by decide⟩
theorem mv_X10_act : z_mv M_X10_act := ⟨tb_1065, tb_1066⟩
def f_X10_act (n : Nat) (a0 : Int32) (a1 : Int32) (a2 : Int32) (S : z_Stt) : Option (Int32 × z_Stt) :=
  g_let (sI S 3203 0) fun S1 =>
  g_bd (f_X10_isGoer a0 S1) fun v3 S4 =>
  if v3 = true then
    g_bd (f_X10_within a1 3 S4) fun v7 S8 =>
    if v7 = true then
      g_bd (f_X5_begin n a0 a1 a2 S8) fun v11 S12 =>
      some (v11, S12)
    else
      some (0, S8)
  else
    some (0, S4)
set_option maxHeartbeats 4000000 in
set_option maxRecDepth 100000 in
theorem t_X10_act {g : z_G} {K : z_K} (n : Nat) {v : Int32} {S' : z_Stt} (cx : z_C g M_X10_act 66 K) (ce : z_E' g M_X10_act (z_P g (some (.int v)) S') K) (a0 : Int32) (a1 : Int32) (a2 : Int32) (S : z_Stt) (h : f_X10_act n a0 a1 a2 S = some (v, S')) : z_At g M_X10_act K 0 [some (.ref (z_ad g 0)), some (.int a0), some (.int a1), some (.int a2)] [] (hp g S) := by
  unfold f_X10_act at h
  refine z_aload_n cx rfl rfl dX10_act_0 ?_
  refine q_getF (k := 0) (n := 32) (r := 32) cx z_cl10 (j := 10) (by decide) tb_50 rfl (by decide) rfl rfl rfl dX10_act_1 ?_
  refine z_iconst (v := 0) cx (by decide +kernel) dX10_act_4 ?_
  refine q_putI (k := 32) (n := 3203) cx z_cl5 (j := 3) (by decide) tb_1068 rfl rfl rfl (by decide) rfl rfl rfl (by decide) (by decide) dX10_act_5 ?_
  obtain ⟨S1, e2, h⟩ := g_let_ex h
  rw [← e2]
  refine z_aload_n cx rfl rfl dX10_act_8 ?_
  refine z_iload_n cx rfl rfl dX10_act_9 ?_
  obtain ⟨v3, S4, e5, h⟩ := g_bd_ex h
  refine q_cvi (As := [.int a0]) cx mo_X10_isGoer mv_X10_isGoer z_cl10 rfl tb_1069 (by decide) rfl (by decide) rfl rfl (Nat.le_of_ble_eq_true rfl) dX10_act_10 (c_X10_isGoer a0 _ e5) ?_
  refine q_ifb_eq (tgt := 24) cx (by decide) dX10_act_13 (fun c6 => ?_) (fun c6 => ?_)
  · have h := g_f (Bool.eq_false_iff.mp c6) h
    refine z_iconst (v := 0) cx (by decide +kernel) dX10_act_24 ?_
    obtain ⟨rfl, rfl⟩ := g_some h
    exact z_ireturn cx ce rfl ⟨rfl, rfl⟩ dX10_act_25
  · have h := g_t c6 h
    refine z_iload_n cx rfl rfl dX10_act_16 ?_
    refine z_iconst (v := 3) cx (by decide +kernel) dX10_act_17 ?_
    obtain ⟨v7, S8, e9, h⟩ := g_bd_ex h
    refine q_csi (As := [.int a1, .int 3]) cx mo_X10_within ms_X10_within tb_171 (by decide) rfl rfl (Nat.le_of_ble_eq_true rfl) dX10_act_18 (c_X10_within a1 3 _ e9) ?_
    refine q_ifb_ne (tgt := 26) cx (by decide) dX10_act_21 (fun c10 => ?_) (fun c10 => ?_)
    · have h := g_t c10 h
      refine z_aload_n cx rfl rfl dX10_act_26 ?_
      refine q_getF (k := 0) (n := 32) (r := 32) cx z_cl10 (j := 10) (by decide) tb_50 rfl (by decide) rfl rfl rfl dX10_act_27 ?_
      refine z_iload_n cx rfl rfl dX10_act_30 ?_
      refine z_iload_n cx rfl rfl dX10_act_31 ?_
      refine z_iload_n cx rfl rfl dX10_act_32 ?_
      obtain ⟨v11, S12, e13, h⟩ := g_bd_ex h
      refine q_cvi (As := [.int a0, .int a1, .int a2]) cx mo_X5_begin mv_X5_begin z_cl5 rfl tb_1073 (by decide) rfl (by decide) rfl rfl (Nat.le_of_ble_eq_true rfl) dX10_act_33 (c_X5_begin a0 a1 a2 _ e13) ?_
      obtain ⟨rfl, rfl⟩ := g_some h
      exact z_ireturn cx ce rfl ⟨rfl, rfl⟩ dX10_act_36
    · have h := g_f (Bool.eq_false_iff.mp c10) h
      refine z_iconst (v := 0) cx (by decide +kernel) dX10_act_24 ?_
      obtain ⟨rfl, rfl⟩ := g_some h
      exact z_ireturn cx ce rfl ⟨rfl, rfl⟩ dX10_act_25
theorem c_X10_act {g : z_G} {n : Nat} (a0 : Int32) (a1 : Int32) (a2 : Int32) (S : z_Stt) {v : Int32} {S' : z_Stt} (h : f_X10_act n a0 a1 a2 S = some (v, S')) : z_Ct g M_X10_act 66 [.ref (z_ad g 0), .int a0, .int a1, .int a2] (hp g S) (z_P g (some (.int v)) S') :=
  z_Ct.of (by decide +kernel) rfl (Nat.le_of_ble_eq_true rfl) (fun K cx ce => q_weak (L' := [some (.ref (z_ad g 0)), some (.int a0), some (.int a1), some (.int a2)]) (z_wk_s (z_wk_s (z_wk_s (z_wk_s (z_wk_0))))) (t_X10_act n cx ce a0 a1 a2 S h))
abbrev M_X10_trace : z_M := (RX10, yX10_trace, cX10_trace, 2, some .int)
theorem mo_X10_trace : z_mo M_X10_trace 1 := ⟨tb_1128, tb_2, rfl, ⟨by decide +kernel, by decide +kernel⟩, by decide +kernel, by decide⟩
theorem mv_X10_trace : z_mv M_X10_trace := ⟨tb_1126, tb_1127⟩
def f_X10_trace (a0 : Int32) (S : z_Stt) : Option (Int32 × z_Stt) :=
  if a0 < 0 then
    some ((-1), S)
  else
    if (if 24 < S.1 3203 then 24 else S.1 3203) ≤ a0 then
      some ((-1), S)
    else
      if ¬ (a0 < 0 ∨ 24 ≤ a0.toNatClampNeg) then
        some (S.2.2.1 34 a0.toNatClampNeg, S)
      else none
set_option maxHeartbeats 4000000 in
set_option maxRecDepth 100000 in
theorem t_X10_trace {g : z_G} {K : z_K} {v : Int32} {S' : z_Stt} (cx : z_C g M_X10_trace 1 K) (ce : z_E' g M_X10_trace (z_P g (some (.int v)) S') K) (a0 : Int32) (S : z_Stt) (h : f_X10_trace a0 S = some (v, S')) : z_At g M_X10_trace K 0 [some (.ref (z_ad g 0)), some (.int a0)] [] (hp g S) := by
  unfold f_X10_trace at h
  refine z_iload_n cx rfl rfl dX10_trace_0 ?_
  refine z_if_lt (tgt := 32) cx (by decide) dX10_trace_1 (fun c1 => ?_) (fun c1 => ?_)
  · have h := g_t c1 h
    refine z_iconst (v := (-1)) cx (by decide +kernel) dX10_trace_32 ?_
    obtain ⟨rfl, rfl⟩ := g_some h
    exact z_ireturn cx ce rfl ⟨rfl, rfl⟩ dX10_trace_33
  · have h := g_f c1 h
    refine z_iload_n cx rfl rfl dX10_trace_4 ?_
    refine z_aload_n cx rfl rfl dX10_trace_5 ?_
    refine q_getF (k := 0) (n := 32) (r := 32) cx z_cl10 (j := 10) (by decide) tb_50 rfl (by decide) rfl rfl rfl dX10_trace_6 ?_
    refine q_getI (k := 32) (n := 3203) cx z_cl5 (j := 3) (by decide) tb_1068 rfl (by decide) rfl rfl rfl dX10_trace_9 ?_
    refine z_bipush (v := 24) cx (by decide +kernel) dX10_trace_12 ?_
    refine z_mmin cx tb_711 tb_238 tb_239 tb_240 (by decide) (Nat.le_of_ble_eq_true rfl) dX10_trace_14 ?_
    refine z_icmp_ge (tgt := 32) cx (by decide) dX10_trace_17 (fun c2 => ?_) (fun c2 => ?_)
    · have h := g_t c2 h
      refine z_iconst (v := (-1)) cx (by decide +kernel) dX10_trace_32 ?_
      obtain ⟨rfl, rfl⟩ := g_some h
      exact z_ireturn cx ce rfl ⟨rfl, rfl⟩ dX10_trace_33
    · have h := g_f c2 h
      refine z_aload_n cx rfl rfl dX10_trace_20 ?_
      refine q_getF (k := 0) (n := 32) (r := 32) cx z_cl10 (j := 10) (by decide) tb_50 rfl (by decide) rfl rfl rfl dX10_trace_21 ?_
      refine q_getF (k := 32) (n := 34) (r := 2) cx z_cl5 (j := 2) (by decide) tb_1129 rfl (by decide) rfl rfl rfl dX10_trace_24 ?_
      refine z_iload_n cx rfl rfl dX10_trace_27 ?_
      obtain ⟨c3, h⟩ := g_if h
      refine q_iald cx (by decide) rfl c3 dX10_trace_28 ?_
      refine z_goto (tgt := 33) cx (by decide) dX10_trace_29 ?_
      obtain ⟨rfl, rfl⟩ := g_some h
      exact z_ireturn cx ce rfl ⟨rfl, rfl⟩ dX10_trace_33
theorem c_X10_trace {g : z_G} (a0 : Int32) (S : z_Stt) {v : Int32} {S' : z_Stt} (h : f_X10_trace a0 S = some (v, S')) : z_Ct g M_X10_trace 1 [.ref (z_ad g 0), .int a0] (hp g S) (z_P g (some (.int v)) S') :=
  z_Ct.of (by decide +kernel) rfl (Nat.le_of_ble_eq_true rfl) (fun K cx ce => q_weak (L' := [some (.ref (z_ad g 0)), some (.int a0)]) (z_wk_s (z_wk_s (z_wk_0))) (t_X10_trace cx ce a0 S h))
abbrev M_X10_keep : z_M := (RX10, yX10_keep, cX10_keep, 3, some .int)
theorem mo_X10_keep : z_mo M_X10_keep 2 := ⟨tb_1137, tb_2, rfl, ⟨by decide +kernel, by decide +kernel⟩, by decide +kernel, by decide⟩
theorem mv_X10_keep : z_mv M_X10_keep := ⟨tb_1135, tb_1136⟩
def f_X10_keep_22 (x1 : Int32) (x2 : Int32) (S : z_Stt) : Option (Int32 × z_Stt) :=
  if ¬ (x1 < 0 ∨ 6 ≤ x1.toNatClampNeg) then
    g_bd (f_X8_holdGoer (36 + 2 * x1.toNatClampNeg) x2 S) fun v2 S3 =>
    some (1, S3)
  else none
set_option maxHeartbeats 4000000 in
set_option maxRecDepth 100000 in
theorem t_X10_keep_22 {g : z_G} {K : z_K} {v : Int32} {S' : z_Stt} (cx : z_C g M_X10_keep 2 K) (ce : z_E' g M_X10_keep (z_P g (some (.int v)) S') K) (x1 : Int32) (x2 : Int32) (S : z_Stt) (h : f_X10_keep_22 x1 x2 S = some (v, S')) : z_At g M_X10_keep K 22 [some (.ref (z_ad g 0)), some (.int x1), some (.int x2)] [] (hp g S) := by
  unfold f_X10_keep_22 at h
  refine z_aload_n cx rfl rfl dX10_keep_22 ?_
  refine q_getF (k := 0) (n := 35) (r := 35) cx z_cl10 (j := 11) (by decide) tb_52 rfl (by decide) rfl rfl rfl dX10_keep_23 ?_
  refine z_iload_n cx rfl rfl dX10_keep_26 ?_
  obtain ⟨c1, h⟩ := g_if h
  refine q_aald_S cx (by decide) rfl c1 dX10_keep_27 ?_
  refine z_iload_n cx rfl rfl dX10_keep_28 ?_
  obtain ⟨v2, S3, e4, h⟩ := g_bd_ex h
  refine q_cvv (As := [.int x2]) cx mo_X8_holdGoer mv_X8_holdGoer z_cl8 rfl tb_1138 (by decide) rfl (wp8_of c1).1 (wp8_of c1).2.1 rfl (Nat.le_of_ble_eq_true rfl) dX10_keep_29 (c_X8_holdGoer (36 + 2 * x1.toNatClampNeg) x2 _ (wp8_of c1) e4) ?_
  refine z_iconst (v := 1) cx (by decide +kernel) dX10_keep_32 ?_
  obtain ⟨rfl, rfl⟩ := g_some h
  exact z_ireturn cx ce rfl ⟨rfl, rfl⟩ dX10_keep_33
def f_X10_keep (a0 : Int32) (a1 : Int32) (S : z_Stt) : Option (Int32 × z_Stt) :=
  g_bd (f_X10_isShelf a0 S) fun v1 S2 =>
  if v1 = true then
    if a1 = (-1) then
      f_X10_keep_22 a0 a1 S2
    else
      g_bd (f_X10_isGoer a1 S2) fun v6 S7 =>
      if v6 = true then
        f_X10_keep_22 a0 a1 S7
      else
        some ((-1), S7)
  else
    some ((-1), S2)
set_option maxHeartbeats 4000000 in
set_option maxRecDepth 100000 in
theorem t_X10_keep {g : z_G} {K : z_K} {v : Int32} {S' : z_Stt} (cx : z_C g M_X10_keep 2 K) (ce : z_E' g M_X10_keep (z_P g (some (.int v)) S') K) (a0 : Int32) (a1 : Int32) (S : z_Stt) (h : f_X10_keep a0 a1 S = some (v, S')) : z_At g M_X10_keep K 0 [some (.ref (z_ad g 0)), some (.int a0), some (.int a1)] [] (hp g S) := by
  unfold f_X10_keep at h
  refine z_iload_n cx rfl rfl dX10_keep_0 ?_
  obtain ⟨v1, S2, e3, h⟩ := g_bd_ex h
  refine q_csi (As := [.int a0]) cx mo_X10_isShelf ms_X10_isShelf tb_198 (by decide) rfl rfl (Nat.le_of_ble_eq_true rfl) dX10_keep_1 (c_X10_isShelf a0 _ e3) ?_
  refine q_ifb_eq (tgt := 20) cx (by decide) dX10_keep_4 (fun c4 => ?_) (fun c4 => ?_)
  · have h := g_f (Bool.eq_false_iff.mp c4) h
    refine z_iconst (v := (-1)) cx (by decide +kernel) dX10_keep_20 ?_
    obtain ⟨rfl, rfl⟩ := g_some h
    exact z_ireturn cx ce rfl ⟨rfl, rfl⟩ dX10_keep_21
  · have h := g_t c4 h
    refine z_iload_n cx rfl rfl dX10_keep_7 ?_
    refine z_iconst (v := (-1)) cx (by decide +kernel) dX10_keep_8 ?_
    refine z_icmp_eq (tgt := 22) cx (by decide) dX10_keep_9 (fun c5 => ?_) (fun c5 => ?_)
    · have h := g_t c5 h
      exact q_weak (z_wk_s (z_wk_s (z_wk_s (z_wk_0)))) (t_X10_keep_22 cx ce a0 a1 S2 h)
    · have h := g_f c5 h
      refine z_aload_n cx rfl rfl dX10_keep_12 ?_
      refine z_iload_n cx rfl rfl dX10_keep_13 ?_
      obtain ⟨v6, S7, e8, h⟩ := g_bd_ex h
      refine q_cvi (As := [.int a1]) cx mo_X10_isGoer mv_X10_isGoer z_cl10 rfl tb_1069 (by decide) rfl (by decide) rfl rfl (Nat.le_of_ble_eq_true rfl) dX10_keep_14 (c_X10_isGoer a1 _ e8) ?_
      refine q_ifb_ne (tgt := 22) cx (by decide) dX10_keep_17 (fun c9 => ?_) (fun c9 => ?_)
      · have h := g_t c9 h
        exact q_weak (z_wk_s (z_wk_s (z_wk_s (z_wk_0)))) (t_X10_keep_22 cx ce a0 a1 S7 h)
      · have h := g_f (Bool.eq_false_iff.mp c9) h
        refine z_iconst (v := (-1)) cx (by decide +kernel) dX10_keep_20 ?_
        obtain ⟨rfl, rfl⟩ := g_some h
        exact z_ireturn cx ce rfl ⟨rfl, rfl⟩ dX10_keep_21
theorem c_X10_keep {g : z_G} (a0 : Int32) (a1 : Int32) (S : z_Stt) {v : Int32} {S' : z_Stt} (h : f_X10_keep a0 a1 S = some (v, S')) : z_Ct g M_X10_keep 2 [.ref (z_ad g 0), .int a0, .int a1] (hp g S) (z_P g (some (.int v)) S') :=
  z_Ct.of (by decide +kernel) rfl (Nat.le_of_ble_eq_true rfl) (fun K cx ce => q_weak (L' := [some (.ref (z_ad g 0)), some (.int a0), some (.int a1)]) (z_wk_s (z_wk_s (z_wk_s (z_wk_0)))) (t_X10_keep cx ce a0 a1 S h))
abbrev M_X10_row : z_M := (RX10, yX10_row, cX10_row, 4, some .int)
theorem mo_X10_row : z_mo M_X10_row 3 := ⟨tb_1149, tb_2, rfl, ⟨by decide +kernel, by decide +kernel⟩, by decide +kernel, by decide⟩
theorem mv_X10_row : z_mv M_X10_row := ⟨tb_1147, tb_1148⟩
def f_X10_row (n : Nat) (a0 : Int32) (a1 : Int32) (a2 : Int32) (S : z_Stt) : Option (Int32 × z_Stt) :=
  g_bd (f_X10_isShelf a0 S) fun v1 S2 =>
  if v1 = true then
    g_bd (f_X10_within a1 4 S2) fun v5 S6 =>
    if v5 = true then
      if a2 ≤ 60 then
        if 0 ≤ a2 then
          if ¬ (a0 < 0 ∨ 6 ≤ a0.toNatClampNeg) then
            g_bd (f_X8_holdRow n (36 + 2 * a0.toNatClampNeg) a1 a2 S6) fun v12 S13 =>
            some (1, S13)
          else none
        else
          some ((-14), S6)
      else
        some ((-1), S6)
    else
      some ((-1), S6)
  else
    some ((-1), S2)
set_option maxHeartbeats 4000000 in
set_option maxRecDepth 100000 in
theorem t_X10_row {g : z_G} {K : z_K} (n : Nat) {v : Int32} {S' : z_Stt} (cx : z_C g M_X10_row 2 K) (ce : z_E' g M_X10_row (z_P g (some (.int v)) S') K) (a0 : Int32) (a1 : Int32) (a2 : Int32) (S : z_Stt) (h : f_X10_row n a0 a1 a2 S = some (v, S')) : z_At g M_X10_row K 0 [some (.ref (z_ad g 0)), some (.int a0), some (.int a1), some (.int a2)] [] (hp g S) := by
  unfold f_X10_row at h
  refine z_iload_n cx rfl rfl dX10_row_0 ?_
  obtain ⟨v1, S2, e3, h⟩ := g_bd_ex h
  refine q_csi (As := [.int a0]) cx mo_X10_isShelf ms_X10_isShelf tb_198 (by decide) rfl rfl (Nat.le_of_ble_eq_true rfl) dX10_row_1 (c_X10_isShelf a0 _ e3) ?_
  refine q_ifb_eq (tgt := 21) cx (by decide) dX10_row_4 (fun c4 => ?_) (fun c4 => ?_)
  · have h := g_f (Bool.eq_false_iff.mp c4) h
    refine z_iconst (v := (-1)) cx (by decide +kernel) dX10_row_21 ?_
    obtain ⟨rfl, rfl⟩ := g_some h
    exact z_ireturn cx ce rfl ⟨rfl, rfl⟩ dX10_row_22
  · have h := g_t c4 h
    refine z_iload_n cx rfl rfl dX10_row_7 ?_
    refine z_iconst (v := 4) cx (by decide +kernel) dX10_row_8 ?_
    obtain ⟨v5, S6, e7, h⟩ := g_bd_ex h
    refine q_csi (As := [.int a1, .int 4]) cx mo_X10_within ms_X10_within tb_171 (by decide) rfl rfl (Nat.le_of_ble_eq_true rfl) dX10_row_9 (c_X10_within a1 4 _ e7) ?_
    refine q_ifb_eq (tgt := 21) cx (by decide) dX10_row_12 (fun c8 => ?_) (fun c8 => ?_)
    · have h := g_f (Bool.eq_false_iff.mp c8) h
      refine z_iconst (v := (-1)) cx (by decide +kernel) dX10_row_21 ?_
      obtain ⟨rfl, rfl⟩ := g_some h
      exact z_ireturn cx ce rfl ⟨rfl, rfl⟩ dX10_row_22
    · have h := g_t c8 h
      refine z_iload_n cx rfl rfl dX10_row_15 ?_
      refine z_bipush (v := 60) cx (by decide +kernel) dX10_row_16 ?_
      refine z_icmp_le (tgt := 23) cx (by decide) dX10_row_18 (fun c9 => ?_) (fun c9 => ?_)
      · have h := g_t c9 h
        refine z_iload_n cx rfl rfl dX10_row_23 ?_
        refine z_if_ge (tgt := 30) cx (by decide) dX10_row_24 (fun c10 => ?_) (fun c10 => ?_)
        · have h := g_t c10 h
          refine z_aload_n cx rfl rfl dX10_row_30 ?_
          refine q_getF (k := 0) (n := 35) (r := 35) cx z_cl10 (j := 11) (by decide) tb_52 rfl (by decide) rfl rfl rfl dX10_row_31 ?_
          refine z_iload_n cx rfl rfl dX10_row_34 ?_
          obtain ⟨c11, h⟩ := g_if h
          refine q_aald_S cx (by decide) rfl c11 dX10_row_35 ?_
          refine z_iload_n cx rfl rfl dX10_row_36 ?_
          refine z_iload_n cx rfl rfl dX10_row_37 ?_
          obtain ⟨v12, S13, e14, h⟩ := g_bd_ex h
          refine q_cvv (As := [.int a1, .int a2]) cx mo_X8_holdRow mv_X8_holdRow z_cl8 rfl tb_1150 (by decide) rfl (wp8_of c11).1 (wp8_of c11).2.1 rfl (Nat.le_of_ble_eq_true rfl) dX10_row_38 (c_X8_holdRow (36 + 2 * a0.toNatClampNeg) a1 a2 _ (wp8_of c11) e14) ?_
          refine z_iconst (v := 1) cx (by decide +kernel) dX10_row_41 ?_
          obtain ⟨rfl, rfl⟩ := g_some h
          exact z_ireturn cx ce rfl ⟨rfl, rfl⟩ dX10_row_42
        · have h := g_f c10 h
          refine z_bipush (v := (-14)) cx (by decide +kernel) dX10_row_27 ?_
          obtain ⟨rfl, rfl⟩ := g_some h
          exact z_ireturn cx ce rfl ⟨rfl, rfl⟩ dX10_row_29
      · have h := g_f c9 h
        refine z_iconst (v := (-1)) cx (by decide +kernel) dX10_row_21 ?_
        obtain ⟨rfl, rfl⟩ := g_some h
        exact z_ireturn cx ce rfl ⟨rfl, rfl⟩ dX10_row_22
theorem c_X10_row {g : z_G} {n : Nat} (a0 : Int32) (a1 : Int32) (a2 : Int32) (S : z_Stt) {v : Int32} {S' : z_Stt} (h : f_X10_row n a0 a1 a2 S = some (v, S')) : z_Ct g M_X10_row 2 [.ref (z_ad g 0), .int a0, .int a1, .int a2] (hp g S) (z_P g (some (.int v)) S') :=
  z_Ct.of (by decide +kernel) rfl (Nat.le_of_ble_eq_true rfl) (fun K cx ce => q_weak (L' := [some (.ref (z_ad g 0)), some (.int a0), some (.int a1), some (.int a2)]) (z_wk_s (z_wk_s (z_wk_s (z_wk_s (z_wk_0))))) (t_X10_row n cx ce a0 a1 a2 S h))
abbrev M_X10_put : z_M := (RX10, yX10_put, cX10_put, 6, some .int)
theorem mo_X10_put : z_mo M_X10_put 3 := ⟨tb_1161, tb_2, rfl, ⟨by decide +kernel, by decide +kernel⟩, by decide +kernel, by decide⟩
theorem mv_X10_put : z_mv M_X10_put := ⟨tb_1159, tb_1160⟩
def f_X10_put (a0 : Int32) (a1 : Int32) (a2 : Int64) (S : z_Stt) : Option (Int32 × z_Stt) :=
  g_bd (f_X10_isShelf a0 S) fun v1 S2 =>
  if v1 = true then
    if ¬ (a0 < 0 ∨ 6 ≤ a0.toNatClampNeg) then
      g_bd (f_X8_refusalAt (36 + 2 * a0.toNatClampNeg) a1 S2) fun v6 S7 =>
      if v6 = 0 then
        if ¬ (a0 < 0 ∨ 6 ≤ a0.toNatClampNeg) then
          g_bd (f_X8_become (36 + 2 * a0.toNatClampNeg) a1 a2 S7) fun v11 S12 =>
          some (1, S12)
        else none
      else
        some (v6, S7)
    else none
  else
    some ((-1), S2)
set_option maxHeartbeats 4000000 in
set_option maxRecDepth 100000 in
theorem t_X10_put {g : z_G} {K : z_K} {v : Int32} {S' : z_Stt} (cx : z_C g M_X10_put 2 K) (ce : z_E' g M_X10_put (z_P g (some (.int v)) S') K) (a0 : Int32) (a1 : Int32) (a2 : Int64) (S : z_Stt) (h : f_X10_put a0 a1 a2 S = some (v, S')) : z_At g M_X10_put K 0 [some (.ref (z_ad g 0)), some (.int a0), some (.int a1), some (.long a2), none, none] [] (hp g S) := by
  unfold f_X10_put at h
  refine z_iload_n cx rfl rfl dX10_put_0 ?_
  obtain ⟨v1, S2, e3, h⟩ := g_bd_ex h
  refine q_csi (As := [.int a0]) cx mo_X10_isShelf ms_X10_isShelf tb_198 (by decide) rfl rfl (Nat.le_of_ble_eq_true rfl) dX10_put_1 (c_X10_isShelf a0 _ e3) ?_
  refine q_ifb_ne (tgt := 9) cx (by decide) dX10_put_4 (fun c4 => ?_) (fun c4 => ?_)
  · have h := g_t c4 h
    refine z_aload_n cx rfl rfl dX10_put_9 ?_
    refine q_getF (k := 0) (n := 35) (r := 35) cx z_cl10 (j := 11) (by decide) tb_52 rfl (by decide) rfl rfl rfl dX10_put_10 ?_
    refine z_iload_n cx rfl rfl dX10_put_13 ?_
    obtain ⟨c5, h⟩ := g_if h
    refine q_aald_S cx (by decide) rfl c5 dX10_put_14 ?_
    refine z_iload_n cx rfl rfl dX10_put_15 ?_
    obtain ⟨v6, S7, e8, h⟩ := g_bd_ex h
    refine q_cvi (As := [.int a1]) cx mo_X8_refusalAt mv_X8_refusalAt z_cl8 rfl tb_1162 (by decide) rfl (wp8_of c5).1 (wp8_of c5).2.1 rfl (Nat.le_of_ble_eq_true rfl) dX10_put_16 (c_X8_refusalAt (36 + 2 * a0.toNatClampNeg) a1 _ (wp8_of c5) e8) ?_
    refine z_istore (L' := [some (.ref (z_ad g 0)), some (.int a0), some (.int a1), some (.long a2), none, some (.int v6)]) cx (by decide) rfl dX10_put_19 ?_
    refine z_iload cx rfl dX10_put_21 ?_
    refine z_if_eq (tgt := 29) cx (by decide) dX10_put_23 (fun c9 => ?_) (fun c9 => ?_)
    · have h := g_t c9 h
      refine z_aload_n cx rfl rfl dX10_put_29 ?_
      refine q_getF (k := 0) (n := 35) (r := 35) cx z_cl10 (j := 11) (by decide) tb_52 rfl (by decide) rfl rfl rfl dX10_put_30 ?_
      refine z_iload_n cx rfl rfl dX10_put_33 ?_
      obtain ⟨c10, h⟩ := g_if h
      refine q_aald_S cx (by decide) rfl c10 dX10_put_34 ?_
      refine z_iload_n cx rfl rfl dX10_put_35 ?_
      refine z_lload_n cx rfl rfl dX10_put_36 ?_
      obtain ⟨v11, S12, e13, h⟩ := g_bd_ex h
      refine q_cvv (As := [.int a1, .long a2]) cx mo_X8_become mv_X8_become z_cl8 rfl tb_1170 (by decide) rfl (wp8_of c10).1 (wp8_of c10).2.1 rfl (Nat.le_of_ble_eq_true rfl) dX10_put_37 (c_X8_become (36 + 2 * a0.toNatClampNeg) a1 a2 _ (wp8_of c10) e13) ?_
      refine z_iconst (v := 1) cx (by decide +kernel) dX10_put_40 ?_
      obtain ⟨rfl, rfl⟩ := g_some h
      exact z_ireturn cx ce rfl ⟨rfl, rfl⟩ dX10_put_41
    · have h := g_f c9 h
      refine z_iload cx rfl dX10_put_26 ?_
      obtain ⟨rfl, rfl⟩ := g_some h
      exact z_ireturn cx ce rfl ⟨rfl, rfl⟩ dX10_put_28
  · have h := g_f (Bool.eq_false_iff.mp c4) h
    refine z_iconst (v := (-1)) cx (by decide +kernel) dX10_put_7 ?_
    obtain ⟨rfl, rfl⟩ := g_some h
    exact z_ireturn cx ce rfl ⟨rfl, rfl⟩ dX10_put_8
theorem c_X10_put {g : z_G} (a0 : Int32) (a1 : Int32) (a2 : Int64) (S : z_Stt) {v : Int32} {S' : z_Stt} (h : f_X10_put a0 a1 a2 S = some (v, S')) : z_Ct g M_X10_put 2 [.ref (z_ad g 0), .int a0, .int a1, .long a2] (hp g S) (z_P g (some (.int v)) S') :=
  z_Ct.of (by decide +kernel) rfl (Nat.le_of_ble_eq_true rfl) (fun K cx ce => q_weak (L' := [some (.ref (z_ad g 0)), some (.int a0), some (.int a1), some (.long a2), none, none]) (z_wk_s (z_wk_s (z_wk_s (z_wk_s (z_wk_n (z_wk_e (z_wk_0))))))) (t_X10_put cx ce a0 a1 a2 S h))
abbrev M_X10_element : z_M := (RX10, yX10_element, cX10_element, 3, some .long)
theorem mo_X10_element : z_mo M_X10_element 2 := ⟨tb_1192, tb_2, rfl, ⟨by decide +kernel, by decide +kernel⟩, by decide +kernel, by decide⟩
theorem mv_X10_element : z_mv M_X10_element := ⟨tb_1190, tb_1191⟩
def f_X10_element (a0 : Int32) (a1 : Int32) (S : z_Stt) : Option (Int64 × z_Stt) :=
  g_bd (f_X10_isShelf a0 S) fun v1 S2 =>
  if v1 = true then
    if ¬ (a0 < 0 ∨ 6 ≤ a0.toNatClampNeg) then
      g_bd (f_X8_refusalAt (36 + 2 * a0.toNatClampNeg) a1 S2) fun v6 S7 =>
      if v6 = 0 then
        if ¬ (a0 < 0 ∨ 6 ≤ a0.toNatClampNeg) then
          g_bd (f_X8_at (36 + 2 * a0.toNatClampNeg) a1 S7) fun v11 S12 =>
          some (v11, S12)
        else none
      else
        some ((-9223372036854775808), S7)
    else none
  else
    some ((-9223372036854775808), S2)
set_option maxHeartbeats 4000000 in
set_option maxRecDepth 100000 in
theorem t_X10_element {g : z_G} {K : z_K} {v : Int64} {S' : z_Stt} (cx : z_C g M_X10_element 2 K) (ce : z_E' g M_X10_element (z_P g (some (.long v)) S') K) (a0 : Int32) (a1 : Int32) (S : z_Stt) (h : f_X10_element a0 a1 S = some (v, S')) : z_At g M_X10_element K 0 [some (.ref (z_ad g 0)), some (.int a0), some (.int a1)] [] (hp g S) := by
  unfold f_X10_element at h
  refine z_iload_n cx rfl rfl dX10_element_0 ?_
  obtain ⟨v1, S2, e3, h⟩ := g_bd_ex h
  refine q_csi (As := [.int a0]) cx mo_X10_isShelf ms_X10_isShelf tb_198 (by decide) rfl rfl (Nat.le_of_ble_eq_true rfl) dX10_element_1 (c_X10_isShelf a0 _ e3) ?_
  refine q_ifb_eq (tgt := 20) cx (by decide) dX10_element_4 (fun c4 => ?_) (fun c4 => ?_)
  · have h := g_f (Bool.eq_false_iff.mp c4) h
    refine z_ldc2 cx tb_442 dX10_element_20 ?_
    obtain ⟨rfl, rfl⟩ := g_some h
    exact z_lreturn cx ce rfl ⟨rfl, rfl⟩ dX10_element_23
  · have h := g_t c4 h
    refine z_aload_n cx rfl rfl dX10_element_7 ?_
    refine q_getF (k := 0) (n := 35) (r := 35) cx z_cl10 (j := 11) (by decide) tb_52 rfl (by decide) rfl rfl rfl dX10_element_8 ?_
    refine z_iload_n cx rfl rfl dX10_element_11 ?_
    obtain ⟨c5, h⟩ := g_if h
    refine q_aald_S cx (by decide) rfl c5 dX10_element_12 ?_
    refine z_iload_n cx rfl rfl dX10_element_13 ?_
    obtain ⟨v6, S7, e8, h⟩ := g_bd_ex h
    refine q_cvi (As := [.int a1]) cx mo_X8_refusalAt mv_X8_refusalAt z_cl8 rfl tb_1162 (by decide) rfl (wp8_of c5).1 (wp8_of c5).2.1 rfl (Nat.le_of_ble_eq_true rfl) dX10_element_14 (c_X8_refusalAt (36 + 2 * a0.toNatClampNeg) a1 _ (wp8_of c5) e8) ?_
    refine z_if_eq (tgt := 24) cx (by decide) dX10_element_17 (fun c9 => ?_) (fun c9 => ?_)
    · have h := g_t c9 h
      refine z_aload_n cx rfl rfl dX10_element_24 ?_
      refine q_getF (k := 0) (n := 35) (r := 35) cx z_cl10 (j := 11) (by decide) tb_52 rfl (by decide) rfl rfl rfl dX10_element_25 ?_
      refine z_iload_n cx rfl rfl dX10_element_28 ?_
      obtain ⟨c10, h⟩ := g_if h
      refine q_aald_S cx (by decide) rfl c10 dX10_element_29 ?_
      refine z_iload_n cx rfl rfl dX10_element_30 ?_
      obtain ⟨v11, S12, e13, h⟩ := g_bd_ex h
      refine q_cvl (As := [.int a1]) cx mo_X8_at mv_X8_at z_cl8 rfl tb_211 (by decide) rfl (wp8_of c10).1 (wp8_of c10).2.1 rfl (Nat.le_of_ble_eq_true rfl) dX10_element_31 (c_X8_at (36 + 2 * a0.toNatClampNeg) a1 _ (wp8_of c10) e13) ?_
      obtain ⟨rfl, rfl⟩ := g_some h
      exact z_lreturn cx ce rfl ⟨rfl, rfl⟩ dX10_element_34
    · have h := g_f c9 h
      refine z_ldc2 cx tb_442 dX10_element_20 ?_
      obtain ⟨rfl, rfl⟩ := g_some h
      exact z_lreturn cx ce rfl ⟨rfl, rfl⟩ dX10_element_23
theorem c_X10_element {g : z_G} (a0 : Int32) (a1 : Int32) (S : z_Stt) {v : Int64} {S' : z_Stt} (h : f_X10_element a0 a1 S = some (v, S')) : z_Ct g M_X10_element 2 [.ref (z_ad g 0), .int a0, .int a1] (hp g S) (z_P g (some (.long v)) S') :=
  z_Ct.of (by decide +kernel) rfl (Nat.le_of_ble_eq_true rfl) (fun K cx ce => q_weak (L' := [some (.ref (z_ad g 0)), some (.int a0), some (.int a1)]) (z_wk_s (z_wk_s (z_wk_s (z_wk_0)))) (t_X10_element cx ce a0 a1 S h))
abbrev M_X10_shift : z_M := (RX10, yX10_shift, cX10_shift, 8, some .int)
theorem mo_X10_shift : z_mo M_X10_shift 5 := ⟨tb_1200, tb_2, rfl, ⟨by decide +kernel, by decide +kernel⟩, by decide +kernel, by decide⟩
theorem mv_X10_shift : z_mv M_X10_shift := ⟨tb_1198, tb_1199⟩
def f_X10_shift (a0 : Int32) (a1 : Int32) (a2 : Int32) (a3 : Int32) (a4 : Int32) (S : z_Stt) : Option (Int32 × z_Stt) :=
  g_bd (f_X10_isShelf a0 S) fun v1 S2 =>
  if v1 = true then
    g_bd (f_X10_isShelf a2 S2) fun v5 S6 =>
    if v5 = true then
      if ¬ (a0 < 0 ∨ 6 ≤ a0.toNatClampNeg) then
        if ¬ (a2 < 0 ∨ 6 ≤ a2.toNatClampNeg) then
          if S6.1 (100 * (36 + 2 * a0.toNatClampNeg) + 0) = 0 then
            some ((-11), S6)
          else
            if S6.1 (100 * (36 + 2 * a2.toNatClampNeg) + 0) = 0 then
              some ((-11), S6)
            else
              if S6.1 (100 * (36 + 2 * a0.toNatClampNeg) + 0) = 2 then
                if S6.1 (100 * (36 + 2 * a2.toNatClampNeg) + 0) = 2 then
                  if S6.1 (100 * (36 + 2 * a0.toNatClampNeg) + 2) = S6.1 (100 * (36 + 2 * a2.toNatClampNeg) + 2) then
                    g_bd (f_X8_hasPlaces (36 + 2 * a0.toNatClampNeg) a1 a4 S6) fun v16 S17 =>
                    if v16 = true then
                      g_bd (f_X8_hasPlaces (36 + 2 * a2.toNatClampNeg) a3 a4 S17) fun v20 S21 =>
                      if v20 = true then
                        if ¬ a1 < 0 ∧ ¬ a3 < 0 ∧ ¬ a4 < 0 ∧ a1.toNatClampNeg + a4.toNatClampNeg ≤ 60 ∧ a3.toNatClampNeg + a4.toNatClampNeg ≤ 60 then
                          g_let (sE S21 ((36 + 2 * a2.toNatClampNeg) + 1) (va_cpy (S21.2.2.2.1 ((36 + 2 * a0.toNatClampNeg) + 1)) (S21.2.2.2.1 ((36 + 2 * a2.toNatClampNeg) + 1)) a1.toNatClampNeg a3.toNatClampNeg a4.toNatClampNeg)) fun S25 =>
                          some (a4, S25)
                        else none
                      else
                        some ((-13), S21)
                    else
                      some ((-13), S17)
                  else
                    some ((-12), S6)
                else
                  some ((-12), S6)
              else
                some ((-12), S6)
        else none
      else none
    else
      some ((-1), S6)
  else
    some ((-1), S2)
set_option maxHeartbeats 4000000 in
set_option maxRecDepth 100000 in
theorem t_X10_shift {g : z_G} {K : z_K} {v : Int32} {S' : z_Stt} (cx : z_C g M_X10_shift 2 K) (ce : z_E' g M_X10_shift (z_P g (some (.int v)) S') K) (a0 : Int32) (a1 : Int32) (a2 : Int32) (a3 : Int32) (a4 : Int32) (S : z_Stt) (h : f_X10_shift a0 a1 a2 a3 a4 S = some (v, S')) : z_At g M_X10_shift K 0 [some (.ref (z_ad g 0)), some (.int a0), some (.int a1), some (.int a2), some (.int a3), some (.int a4), none, none] [] (hp g S) := by
  unfold f_X10_shift at h
  refine z_iload_n cx rfl rfl dX10_shift_0 ?_
  obtain ⟨v1, S2, e3, h⟩ := g_bd_ex h
  refine q_csi (As := [.int a0]) cx mo_X10_isShelf ms_X10_isShelf tb_198 (by decide) rfl rfl (Nat.le_of_ble_eq_true rfl) dX10_shift_1 (c_X10_isShelf a0 _ e3) ?_
  refine q_ifb_eq (tgt := 14) cx (by decide) dX10_shift_4 (fun c4 => ?_) (fun c4 => ?_)
  · have h := g_f (Bool.eq_false_iff.mp c4) h
    refine z_iconst (v := (-1)) cx (by decide +kernel) dX10_shift_14 ?_
    obtain ⟨rfl, rfl⟩ := g_some h
    exact z_ireturn cx ce rfl ⟨rfl, rfl⟩ dX10_shift_15
  · have h := g_t c4 h
    refine z_iload_n cx rfl rfl dX10_shift_7 ?_
    obtain ⟨v5, S6, e7, h⟩ := g_bd_ex h
    refine q_csi (As := [.int a2]) cx mo_X10_isShelf ms_X10_isShelf tb_198 (by decide) rfl rfl (Nat.le_of_ble_eq_true rfl) dX10_shift_8 (c_X10_isShelf a2 _ e7) ?_
    refine q_ifb_ne (tgt := 16) cx (by decide) dX10_shift_11 (fun c8 => ?_) (fun c8 => ?_)
    · have h := g_t c8 h
      refine z_aload_n cx rfl rfl dX10_shift_16 ?_
      refine q_getF (k := 0) (n := 35) (r := 35) cx z_cl10 (j := 11) (by decide) tb_52 rfl (by decide) rfl rfl rfl dX10_shift_17 ?_
      refine z_iload_n cx rfl rfl dX10_shift_20 ?_
      obtain ⟨c9, h⟩ := g_if h
      refine q_aald_S cx (by decide) rfl c9 dX10_shift_21 ?_
      refine z_astore (L' := [some (.ref (z_ad g 0)), some (.int a0), some (.int a1), some (.int a2), some (.int a3), some (.int a4), some (.ref (z_ad g (36 + 2 * a0.toNatClampNeg))), none]) cx (by decide) rfl dX10_shift_22 ?_
      refine z_aload_n cx rfl rfl dX10_shift_24 ?_
      refine q_getF (k := 0) (n := 35) (r := 35) cx z_cl10 (j := 11) (by decide) tb_52 rfl (by decide) rfl rfl rfl dX10_shift_25 ?_
      refine z_iload_n cx rfl rfl dX10_shift_28 ?_
      obtain ⟨c10, h⟩ := g_if h
      refine q_aald_S cx (by decide) rfl c10 dX10_shift_29 ?_
      refine z_astore (L' := [some (.ref (z_ad g 0)), some (.int a0), some (.int a1), some (.int a2), some (.int a3), some (.int a4), some (.ref (z_ad g (36 + 2 * a0.toNatClampNeg))), some (.ref (z_ad g (36 + 2 * a2.toNatClampNeg)))]) cx (by decide) rfl dX10_shift_30 ?_
      refine z_aload cx rfl dX10_shift_32 ?_
      refine q_getI (k := 36 + 2 * a0.toNatClampNeg) (n := 100 * (36 + 2 * a0.toNatClampNeg) + 0) cx z_cl8 (j := 0) (by decide) tb_196 rfl (wp8_of c9).1 (wp8_of c9).2.1 rfl rfl dX10_shift_34 ?_
      refine z_if_eq (tgt := 48) cx (by decide) dX10_shift_37 (fun c11 => ?_) (fun c11 => ?_)
      · have h := g_t c11 h
        refine z_bipush (v := (-11)) cx (by decide +kernel) dX10_shift_48 ?_
        obtain ⟨rfl, rfl⟩ := g_some h
        exact z_ireturn cx ce rfl ⟨rfl, rfl⟩ dX10_shift_50
      · have h := g_f c11 h
        refine z_aload cx rfl dX10_shift_40 ?_
        refine q_getI (k := 36 + 2 * a2.toNatClampNeg) (n := 100 * (36 + 2 * a2.toNatClampNeg) + 0) cx z_cl8 (j := 0) (by decide) tb_196 rfl (wp8_of c10).1 (wp8_of c10).2.1 rfl rfl dX10_shift_42 ?_
        refine z_if_ne (tgt := 51) cx (by decide) dX10_shift_45 (fun c12 => ?_) (fun c12 => ?_)
        · have h := g_f c12 h
          refine z_aload cx rfl dX10_shift_51 ?_
          refine q_getI (k := 36 + 2 * a0.toNatClampNeg) (n := 100 * (36 + 2 * a0.toNatClampNeg) + 0) cx z_cl8 (j := 0) (by decide) tb_196 rfl (wp8_of c9).1 (wp8_of c9).2.1 rfl rfl dX10_shift_53 ?_
          refine z_iconst (v := 2) cx (by decide +kernel) dX10_shift_56 ?_
          refine z_icmp_ne (tgt := 82) cx (by decide) dX10_shift_57 (fun c13 => ?_) (fun c13 => ?_)
          · have h := g_f c13 h
            refine z_bipush (v := (-12)) cx (by decide +kernel) dX10_shift_82 ?_
            obtain ⟨rfl, rfl⟩ := g_some h
            exact z_ireturn cx ce rfl ⟨rfl, rfl⟩ dX10_shift_84
          · have h := g_t c13 h
            refine z_aload cx rfl dX10_shift_60 ?_
            refine q_getI (k := 36 + 2 * a2.toNatClampNeg) (n := 100 * (36 + 2 * a2.toNatClampNeg) + 0) cx z_cl8 (j := 0) (by decide) tb_196 rfl (wp8_of c10).1 (wp8_of c10).2.1 rfl rfl dX10_shift_62 ?_
            refine z_iconst (v := 2) cx (by decide +kernel) dX10_shift_65 ?_
            refine z_icmp_ne (tgt := 82) cx (by decide) dX10_shift_66 (fun c14 => ?_) (fun c14 => ?_)
            · have h := g_f c14 h
              refine z_bipush (v := (-12)) cx (by decide +kernel) dX10_shift_82 ?_
              obtain ⟨rfl, rfl⟩ := g_some h
              exact z_ireturn cx ce rfl ⟨rfl, rfl⟩ dX10_shift_84
            · have h := g_t c14 h
              refine z_aload cx rfl dX10_shift_69 ?_
              refine q_getI (k := 36 + 2 * a0.toNatClampNeg) (n := 100 * (36 + 2 * a0.toNatClampNeg) + 2) cx z_cl8 (j := 2) (by decide) tb_1201 rfl (wp8_of c9).1 (wp8_of c9).2.1 rfl rfl dX10_shift_71 ?_
              refine z_aload cx rfl dX10_shift_74 ?_
              refine q_getI (k := 36 + 2 * a2.toNatClampNeg) (n := 100 * (36 + 2 * a2.toNatClampNeg) + 2) cx z_cl8 (j := 2) (by decide) tb_1201 rfl (wp8_of c10).1 (wp8_of c10).2.1 rfl rfl dX10_shift_76 ?_
              refine z_icmp_eq (tgt := 85) cx (by decide) dX10_shift_79 (fun c15 => ?_) (fun c15 => ?_)
              · have h := g_t c15 h
                refine z_aload cx rfl dX10_shift_85 ?_
                refine z_iload_n cx rfl rfl dX10_shift_87 ?_
                refine z_iload cx rfl dX10_shift_88 ?_
                obtain ⟨v16, S17, e18, h⟩ := g_bd_ex h
                refine q_cvi (As := [.int a1, .int a4]) cx mo_X8_hasPlaces mv_X8_hasPlaces z_cl8 rfl tb_1207 (by decide) rfl (wp8_of c9).1 (wp8_of c9).2.1 rfl (Nat.le_of_ble_eq_true rfl) dX10_shift_90 (c_X8_hasPlaces (36 + 2 * a0.toNatClampNeg) a1 a4 _ (wp8_of c9) e18) ?_
                refine q_ifb_eq (tgt := 108) cx (by decide) dX10_shift_93 (fun c19 => ?_) (fun c19 => ?_)
                · have h := g_f (Bool.eq_false_iff.mp c19) h
                  refine z_bipush (v := (-13)) cx (by decide +kernel) dX10_shift_108 ?_
                  obtain ⟨rfl, rfl⟩ := g_some h
                  exact z_ireturn cx ce rfl ⟨rfl, rfl⟩ dX10_shift_110
                · have h := g_t c19 h
                  refine z_aload cx rfl dX10_shift_96 ?_
                  refine z_iload cx rfl dX10_shift_98 ?_
                  refine z_iload cx rfl dX10_shift_100 ?_
                  obtain ⟨v20, S21, e22, h⟩ := g_bd_ex h
                  refine q_cvi (As := [.int a3, .int a4]) cx mo_X8_hasPlaces mv_X8_hasPlaces z_cl8 rfl tb_1207 (by decide) rfl (wp8_of c10).1 (wp8_of c10).2.1 rfl (Nat.le_of_ble_eq_true rfl) dX10_shift_102 (c_X8_hasPlaces (36 + 2 * a2.toNatClampNeg) a3 a4 _ (wp8_of c10) e22) ?_
                  refine q_ifb_ne (tgt := 111) cx (by decide) dX10_shift_105 (fun c23 => ?_) (fun c23 => ?_)
                  · have h := g_t c23 h
                    refine z_aload cx rfl dX10_shift_111 ?_
                    refine q_getF (k := 36 + 2 * a0.toNatClampNeg) (n := (36 + 2 * a0.toNatClampNeg) + 1) (r := 1) cx z_cl8 (j := 4) (by decide) tb_1202 rfl (wp8_of c9).1 (wp8_of c9).2.1 rfl rfl dX10_shift_113 ?_
                    refine z_iload_n cx rfl rfl dX10_shift_116 ?_
                    refine z_aload cx rfl dX10_shift_117 ?_
                    refine q_getF (k := 36 + 2 * a2.toNatClampNeg) (n := (36 + 2 * a2.toNatClampNeg) + 1) (r := 1) cx z_cl8 (j := 4) (by decide) tb_1202 rfl (wp8_of c10).1 (wp8_of c10).2.1 rfl rfl dX10_shift_119 ?_
                    refine z_iload cx rfl dX10_shift_122 ?_
                    refine z_iload cx rfl dX10_shift_124 ?_
                    obtain ⟨c24, h⟩ := g_if h
                    refine q_copyl cx tb_1203 tb_1204 tb_1205 tb_1206 (wp8_of c9).2.2.1 (wp8_of c10).2.2.1 ((wp8_of c9).2.2.2) ((wp8_of c10).2.2.2) c24 (by decide) (Nat.le_of_ble_eq_true rfl) dX10_shift_126 ?_
                    obtain ⟨S25, e26, h⟩ := g_let_ex h
                    rw [← e26]
                    refine z_iload cx rfl dX10_shift_129 ?_
                    obtain ⟨rfl, rfl⟩ := g_some h
                    exact z_ireturn cx ce rfl ⟨rfl, rfl⟩ dX10_shift_131
                  · have h := g_f (Bool.eq_false_iff.mp c23) h
                    refine z_bipush (v := (-13)) cx (by decide +kernel) dX10_shift_108 ?_
                    obtain ⟨rfl, rfl⟩ := g_some h
                    exact z_ireturn cx ce rfl ⟨rfl, rfl⟩ dX10_shift_110
              · have h := g_f c15 h
                refine z_bipush (v := (-12)) cx (by decide +kernel) dX10_shift_82 ?_
                obtain ⟨rfl, rfl⟩ := g_some h
                exact z_ireturn cx ce rfl ⟨rfl, rfl⟩ dX10_shift_84
        · have h := g_t c12 h
          refine z_bipush (v := (-11)) cx (by decide +kernel) dX10_shift_48 ?_
          obtain ⟨rfl, rfl⟩ := g_some h
          exact z_ireturn cx ce rfl ⟨rfl, rfl⟩ dX10_shift_50
    · have h := g_f (Bool.eq_false_iff.mp c8) h
      refine z_iconst (v := (-1)) cx (by decide +kernel) dX10_shift_14 ?_
      obtain ⟨rfl, rfl⟩ := g_some h
      exact z_ireturn cx ce rfl ⟨rfl, rfl⟩ dX10_shift_15
theorem c_X10_shift {g : z_G} (a0 : Int32) (a1 : Int32) (a2 : Int32) (a3 : Int32) (a4 : Int32) (S : z_Stt) {v : Int32} {S' : z_Stt} (h : f_X10_shift a0 a1 a2 a3 a4 S = some (v, S')) : z_Ct g M_X10_shift 2 [.ref (z_ad g 0), .int a0, .int a1, .int a2, .int a3, .int a4] (hp g S) (z_P g (some (.int v)) S') :=
  z_Ct.of (by decide +kernel) rfl (Nat.le_of_ble_eq_true rfl) (fun K cx ce => q_weak (L' := [some (.ref (z_ad g 0)), some (.int a0), some (.int a1), some (.int a2), some (.int a3), some (.int a4), none, none]) (z_wk_s (z_wk_s (z_wk_s (z_wk_s (z_wk_s (z_wk_s (z_wk_e (z_wk_e (z_wk_0))))))))) (t_X10_shift cx ce a0 a1 a2 a3 a4 S h))
abbrev M_X10_taken : z_M := (RX10, yX10_taken, cX10_taken, 5, some .int)
theorem mo_X10_taken : z_mo M_X10_taken 2 := ⟨tb_1215, tb_2, rfl, ⟨by decide +kernel, by decide +kernel⟩, by decide +kernel, by decide⟩
theorem mv_X10_taken : z_mv M_X10_taken := ⟨tb_1213, tb_1214⟩
def f_X10_taken (n : Nat) (a0 : Int32) (a1 : Int32) (S : z_Stt) : Option (Int32 × z_Stt) :=
  g_bd (f_X10_isShelf a0 S) fun v1 S2 =>
  if v1 = true then
    g_bd (f_X10_within a1 7 S2) fun v5 S6 =>
    if v5 = true then
      if ¬ (a0 < 0 ∨ 6 ≤ a0.toNatClampNeg) then
        if S6.1 (100 * (36 + 2 * a0.toNatClampNeg) + 0) = 0 then
          some ((-11), S6)
        else
          if S6.1 (100 * (36 + 2 * a0.toNatClampNeg) + 0) = 1 then
            g_bd (f_X10_isGoer (S6.1 (100 * (36 + 2 * a0.toNatClampNeg) + 1)) S6) fun v12 S13 =>
            if v12 = true then
              if ¬ (S13.1 (100 * (36 + 2 * a0.toNatClampNeg) + 1) < 0 ∨ 50 ≤ (S13.1 (100 * (36 + 2 * a0.toNatClampNeg) + 1)).toNatClampNeg) then
                g_bd (f_X5_isUnder n (S13.2.2.1 33 (S13.1 (100 * (36 + 2 * a0.toNatClampNeg) + 1)).toNatClampNeg) a1 S13) fun v17 S18 =>
                if v17 = true then
                  some (S13.2.2.1 33 (S13.1 (100 * (36 + 2 * a0.toNatClampNeg) + 1)).toNatClampNeg, S18)
                else
                  some ((-12), S18)
              else none
            else
              some ((-12), S13)
          else
            some ((-12), S6)
      else none
    else
      some ((-1), S6)
  else
    some ((-1), S2)
set_option maxHeartbeats 4000000 in
set_option maxRecDepth 100000 in
theorem t_X10_taken {g : z_G} {K : z_K} (n : Nat) {v : Int32} {S' : z_Stt} (cx : z_C g M_X10_taken 2 K) (ce : z_E' g M_X10_taken (z_P g (some (.int v)) S') K) (a0 : Int32) (a1 : Int32) (S : z_Stt) (h : f_X10_taken n a0 a1 S = some (v, S')) : z_At g M_X10_taken K 0 [some (.ref (z_ad g 0)), some (.int a0), some (.int a1), none, none] [] (hp g S) := by
  unfold f_X10_taken at h
  refine z_iload_n cx rfl rfl dX10_taken_0 ?_
  obtain ⟨v1, S2, e3, h⟩ := g_bd_ex h
  refine q_csi (As := [.int a0]) cx mo_X10_isShelf ms_X10_isShelf tb_198 (by decide) rfl rfl (Nat.le_of_ble_eq_true rfl) dX10_taken_1 (c_X10_isShelf a0 _ e3) ?_
  refine q_ifb_eq (tgt := 16) cx (by decide) dX10_taken_4 (fun c4 => ?_) (fun c4 => ?_)
  · have h := g_f (Bool.eq_false_iff.mp c4) h
    refine z_iconst (v := (-1)) cx (by decide +kernel) dX10_taken_16 ?_
    obtain ⟨rfl, rfl⟩ := g_some h
    exact z_ireturn cx ce rfl ⟨rfl, rfl⟩ dX10_taken_17
  · have h := g_t c4 h
    refine z_iload_n cx rfl rfl dX10_taken_7 ?_
    refine z_bipush (v := 7) cx (by decide +kernel) dX10_taken_8 ?_
    obtain ⟨v5, S6, e7, h⟩ := g_bd_ex h
    refine q_csi (As := [.int a1, .int 7]) cx mo_X10_within ms_X10_within tb_171 (by decide) rfl rfl (Nat.le_of_ble_eq_true rfl) dX10_taken_10 (c_X10_within a1 7 _ e7) ?_
    refine q_ifb_ne (tgt := 18) cx (by decide) dX10_taken_13 (fun c8 => ?_) (fun c8 => ?_)
    · have h := g_t c8 h
      refine z_aload_n cx rfl rfl dX10_taken_18 ?_
      refine q_getF (k := 0) (n := 35) (r := 35) cx z_cl10 (j := 11) (by decide) tb_52 rfl (by decide) rfl rfl rfl dX10_taken_19 ?_
      refine z_iload_n cx rfl rfl dX10_taken_22 ?_
      obtain ⟨c9, h⟩ := g_if h
      refine q_aald_S cx (by decide) rfl c9 dX10_taken_23 ?_
      refine z_astore_n (L' := [some (.ref (z_ad g 0)), some (.int a0), some (.int a1), some (.ref (z_ad g (36 + 2 * a0.toNatClampNeg))), none]) cx rfl (by decide) rfl dX10_taken_24 ?_
      refine z_aload_n cx rfl rfl dX10_taken_25 ?_
      refine q_getI (k := 36 + 2 * a0.toNatClampNeg) (n := 100 * (36 + 2 * a0.toNatClampNeg) + 0) cx z_cl8 (j := 0) (by decide) tb_196 rfl (wp8_of c9).1 (wp8_of c9).2.1 rfl rfl dX10_taken_26 ?_
      refine z_if_ne (tgt := 35) cx (by decide) dX10_taken_29 (fun c10 => ?_) (fun c10 => ?_)
      · have h := g_f c10 h
        refine z_aload_n cx rfl rfl dX10_taken_35 ?_
        refine q_getI (k := 36 + 2 * a0.toNatClampNeg) (n := 100 * (36 + 2 * a0.toNatClampNeg) + 0) cx z_cl8 (j := 0) (by decide) tb_196 rfl (wp8_of c9).1 (wp8_of c9).2.1 rfl rfl dX10_taken_36 ?_
        refine z_iconst (v := 1) cx (by decide +kernel) dX10_taken_39 ?_
        refine z_icmp_ne (tgt := 54) cx (by decide) dX10_taken_40 (fun c11 => ?_) (fun c11 => ?_)
        · have h := g_f c11 h
          refine z_bipush (v := (-12)) cx (by decide +kernel) dX10_taken_54 ?_
          obtain ⟨rfl, rfl⟩ := g_some h
          exact z_ireturn cx ce rfl ⟨rfl, rfl⟩ dX10_taken_56
        · have h := g_t c11 h
          refine z_aload_n cx rfl rfl dX10_taken_43 ?_
          refine z_aload_n cx rfl rfl dX10_taken_44 ?_
          refine q_getI (k := 36 + 2 * a0.toNatClampNeg) (n := 100 * (36 + 2 * a0.toNatClampNeg) + 1) cx z_cl8 (j := 1) (by decide) tb_1216 rfl (wp8_of c9).1 (wp8_of c9).2.1 rfl rfl dX10_taken_45 ?_
          obtain ⟨v12, S13, e14, h⟩ := g_bd_ex h
          refine q_cvi (As := [.int (S6.1 (100 * (36 + 2 * a0.toNatClampNeg) + 1))]) cx mo_X10_isGoer mv_X10_isGoer z_cl10 rfl tb_1069 (by decide) rfl (by decide) rfl rfl (Nat.le_of_ble_eq_true rfl) dX10_taken_48 (c_X10_isGoer (S6.1 (100 * (36 + 2 * a0.toNatClampNeg) + 1)) _ e14) ?_
          refine q_ifb_ne (tgt := 57) cx (by decide) dX10_taken_51 (fun c15 => ?_) (fun c15 => ?_)
          · have h := g_t c15 h
            refine z_aload_n cx rfl rfl dX10_taken_57 ?_
            refine q_getF (k := 0) (n := 32) (r := 32) cx z_cl10 (j := 10) (by decide) tb_50 rfl (by decide) rfl rfl rfl dX10_taken_58 ?_
            refine q_getF (k := 32) (n := 33) (r := 1) cx z_cl5 (j := 0) (by decide) tb_1217 rfl (by decide) rfl rfl rfl dX10_taken_61 ?_
            refine z_aload_n cx rfl rfl dX10_taken_64 ?_
            refine q_getI (k := 36 + 2 * a0.toNatClampNeg) (n := 100 * (36 + 2 * a0.toNatClampNeg) + 1) cx z_cl8 (j := 1) (by decide) tb_1216 rfl (wp8_of c9).1 (wp8_of c9).2.1 rfl rfl dX10_taken_65 ?_
            obtain ⟨c16, h⟩ := g_if h
            refine q_iald cx (by decide) rfl c16 dX10_taken_68 ?_
            refine z_istore (L' := [some (.ref (z_ad g 0)), some (.int a0), some (.int a1), some (.ref (z_ad g (36 + 2 * a0.toNatClampNeg))), some (.int (S13.2.2.1 33 (S13.1 (100 * (36 + 2 * a0.toNatClampNeg) + 1)).toNatClampNeg))]) cx (by decide) rfl dX10_taken_69 ?_
            refine z_iload cx rfl dX10_taken_71 ?_
            refine z_iload_n cx rfl rfl dX10_taken_73 ?_
            obtain ⟨v17, S18, e19, h⟩ := g_bd_ex h
            refine q_csi (As := [.int (S13.2.2.1 33 (S13.1 (100 * (36 + 2 * a0.toNatClampNeg) + 1)).toNatClampNeg), .int a1]) cx mo_X5_isUnder ms_X5_isUnder tb_1218 (by decide) rfl rfl (Nat.le_of_ble_eq_true rfl) dX10_taken_74 (c_X5_isUnder (S13.2.2.1 33 (S13.1 (100 * (36 + 2 * a0.toNatClampNeg) + 1)).toNatClampNeg) a1 _ e19) ?_
            refine q_ifb_eq (tgt := 85) cx (by decide) dX10_taken_77 (fun c20 => ?_) (fun c20 => ?_)
            · have h := g_f (Bool.eq_false_iff.mp c20) h
              refine z_bipush (v := (-12)) cx (by decide +kernel) dX10_taken_85 ?_
              obtain ⟨rfl, rfl⟩ := g_some h
              exact z_ireturn cx ce rfl ⟨rfl, rfl⟩ dX10_taken_87
            · have h := g_t c20 h
              refine z_iload cx rfl dX10_taken_80 ?_
              refine z_goto (tgt := 87) cx (by decide) dX10_taken_82 ?_
              obtain ⟨rfl, rfl⟩ := g_some h
              exact z_ireturn cx ce rfl ⟨rfl, rfl⟩ dX10_taken_87
          · have h := g_f (Bool.eq_false_iff.mp c15) h
            refine z_bipush (v := (-12)) cx (by decide +kernel) dX10_taken_54 ?_
            obtain ⟨rfl, rfl⟩ := g_some h
            exact z_ireturn cx ce rfl ⟨rfl, rfl⟩ dX10_taken_56
      · have h := g_t c10 h
        refine z_bipush (v := (-11)) cx (by decide +kernel) dX10_taken_32 ?_
        obtain ⟨rfl, rfl⟩ := g_some h
        exact z_ireturn cx ce rfl ⟨rfl, rfl⟩ dX10_taken_34
    · have h := g_f (Bool.eq_false_iff.mp c8) h
      refine z_iconst (v := (-1)) cx (by decide +kernel) dX10_taken_16 ?_
      obtain ⟨rfl, rfl⟩ := g_some h
      exact z_ireturn cx ce rfl ⟨rfl, rfl⟩ dX10_taken_17
theorem c_X10_taken {g : z_G} {n : Nat} (a0 : Int32) (a1 : Int32) (S : z_Stt) {v : Int32} {S' : z_Stt} (h : f_X10_taken n a0 a1 S = some (v, S')) : z_Ct g M_X10_taken 2 [.ref (z_ad g 0), .int a0, .int a1] (hp g S) (z_P g (some (.int v)) S') :=
  z_Ct.of (by decide +kernel) rfl (Nat.le_of_ble_eq_true rfl) (fun K cx ce => q_weak (L' := [some (.ref (z_ad g 0)), some (.int a0), some (.int a1), none, none]) (z_wk_s (z_wk_s (z_wk_s (z_wk_e (z_wk_e (z_wk_0)))))) (t_X10_taken n cx ce a0 a1 S h))
abbrev M_X10_countMarked : z_M := (RX10, yX10_countMarked, cX10_countMarked, 3, some .int)
theorem mo_X10_countMarked : z_mo M_X10_countMarked 0 := ⟨tb_1239, tb_2, rfl, ⟨by decide +kernel, by decide +kernel⟩, by decide +kernel, by decide⟩
theorem mv_X10_countMarked : z_mv M_X10_countMarked := ⟨tb_1237, tb_1238⟩
def f_X10_countMarked_4 (n : Nat) : Nat → Int32 → Int32 → z_Stt → Option (Int32 × z_Stt)
  | 0, _, _, _ => none
  | m + 1, x1, x2, S =>
    if S.1 101 ≤ x2 then
      some (x1, S)
    else
      g_bd (f_X9_ofThing 4 x2 S) fun v2 S3 =>
      f_X10_countMarked_4 n m (x1 + v2) (x2 + 1) S3
set_option maxHeartbeats 4000000 in
set_option maxRecDepth 100000 in
theorem t_X10_countMarked_4 {g : z_G} {K : z_K} (n : Nat) {v : Int32} {S' : z_Stt} (cx : z_C g M_X10_countMarked 2 K) (ce : z_E' g M_X10_countMarked (z_P g (some (.int v)) S') K) : ∀ (m : Nat) (x1 : Int32) (x2 : Int32) (S : z_Stt) (h : f_X10_countMarked_4 n m x1 x2 S = some (v, S')), z_At g M_X10_countMarked K 4 [some (.ref (z_ad g 0)), some (.int x1), some (.int x2)] [] (hp g S) := by
  intro m
  induction m with
  | zero => intro x1 x2 S h; simp [f_X10_countMarked_4] at h
  | succ m ih =>
    intro x1 x2 S h
    rw [f_X10_countMarked_4] at h
    refine z_iload_n cx rfl rfl dX10_countMarked_4 ?_
    refine z_aload_n cx rfl rfl dX10_countMarked_5 ?_
    refine q_getF (k := 0) (n := 1) (r := 1) cx z_cl10 (j := 0) (by decide) tb_16 rfl (by decide) rfl rfl rfl dX10_countMarked_6 ?_
    refine q_getI (k := 1) (n := 101) cx z_cl9 (j := 1) (by decide) tb_170 rfl (by decide) rfl rfl rfl dX10_countMarked_9 ?_
    refine z_icmp_ge (tgt := 33) cx (by decide) dX10_countMarked_12 (fun c1 => ?_) (fun c1 => ?_)
    · have h := g_t c1 h
      refine z_iload_n cx rfl rfl dX10_countMarked_33 ?_
      obtain ⟨rfl, rfl⟩ := g_some h
      exact z_ireturn cx ce rfl ⟨rfl, rfl⟩ dX10_countMarked_34
    · have h := g_f c1 h
      refine z_iload_n cx rfl rfl dX10_countMarked_15 ?_
      refine z_aload_n cx rfl rfl dX10_countMarked_16 ?_
      refine q_getF (k := 0) (n := 1) (r := 1) cx z_cl10 (j := 0) (by decide) tb_16 rfl (by decide) rfl rfl rfl dX10_countMarked_17 ?_
      refine z_iconst (v := 4) cx (by decide +kernel) dX10_countMarked_20 ?_
      refine z_iload_n cx rfl rfl dX10_countMarked_21 ?_
      obtain ⟨v2, S3, e4, h⟩ := g_bd_ex h
      refine q_cvi (As := [.int 4, .int x2]) cx mo_X9_ofThing mv_X9_ofThing z_cl9 rfl tb_449 (by decide) rfl (by decide) rfl rfl (Nat.le_of_ble_eq_true rfl) dX10_countMarked_22 (c_X9_ofThing 4 x2 _ e4) ?_
      refine z_iadd cx dX10_countMarked_25 ?_
      refine z_istore_n (L' := [some (.ref (z_ad g 0)), some (.int (x1 + v2)), some (.int x2)]) cx rfl (by decide) rfl dX10_countMarked_26 ?_
      refine z_iinc (c := 1) (L' := [some (.ref (z_ad g 0)), some (.int (x1 + v2)), some (.int (x2 + 1))]) cx rfl (by decide +kernel) (by decide) rfl dX10_countMarked_27 ?_
      refine z_goto (tgt := 4) cx (by decide) dX10_countMarked_30 ?_
      exact q_weak (z_wk_s (z_wk_s (z_wk_s (z_wk_0)))) (ih (x1 + v2) (x2 + 1) S3 h)
def f_X10_countMarked (n : Nat) (S : z_Stt) : Option (Int32 × z_Stt) :=
  f_X10_countMarked_4 n n 0 0 S
set_option maxHeartbeats 4000000 in
set_option maxRecDepth 100000 in
theorem t_X10_countMarked {g : z_G} {K : z_K} (n : Nat) {v : Int32} {S' : z_Stt} (cx : z_C g M_X10_countMarked 2 K) (ce : z_E' g M_X10_countMarked (z_P g (some (.int v)) S') K) (S : z_Stt) (h : f_X10_countMarked n S = some (v, S')) : z_At g M_X10_countMarked K 0 [some (.ref (z_ad g 0)), none, none] [] (hp g S) := by
  unfold f_X10_countMarked at h
  refine z_iconst (v := 0) cx (by decide +kernel) dX10_countMarked_0 ?_
  refine z_istore_n (L' := [some (.ref (z_ad g 0)), some (.int 0), none]) cx rfl (by decide) rfl dX10_countMarked_1 ?_
  refine z_iconst (v := 0) cx (by decide +kernel) dX10_countMarked_2 ?_
  refine z_istore_n (L' := [some (.ref (z_ad g 0)), some (.int 0), some (.int 0)]) cx rfl (by decide) rfl dX10_countMarked_3 ?_
  exact q_weak (z_wk_s (z_wk_s (z_wk_s (z_wk_0)))) (t_X10_countMarked_4 n cx ce n 0 0 S h)
theorem c_X10_countMarked {g : z_G} {n : Nat} (S : z_Stt) {v : Int32} {S' : z_Stt} (h : f_X10_countMarked n S = some (v, S')) : z_Ct g M_X10_countMarked 2 [.ref (z_ad g 0)] (hp g S) (z_P g (some (.int v)) S') :=
  z_Ct.of (by decide +kernel) rfl (Nat.le_of_ble_eq_true rfl) (fun K cx ce => q_weak (L' := [some (.ref (z_ad g 0)), none, none]) (z_wk_s (z_wk_e (z_wk_e (z_wk_0)))) (t_X10_countMarked n cx ce S h))
abbrev M_X10_count : z_M := (RX10, yX10_count, cX10_count, 2, some .int)
theorem mo_X10_count : z_mo M_X10_count 1 := ⟨tb_1235, tb_2, rfl, ⟨by decide +kernel, by decide +kernel⟩, by decide +kernel, by decide⟩
theorem mv_X10_count : z_mv M_X10_count := ⟨tb_1233, tb_1234⟩
def f_X10_count (n : Nat) (a0 : Int32) (S : z_Stt) : Option (Int32 × z_Stt) :=
  if a0 = 0 then
    some (S.1 101, S)
  else if a0 = 1 then
    g_bd (f_X10_countMarked n S) fun v3 S4 =>
    some (v3, S4)
  else if a0 = 2 then
    some (S.1 1301, S)
  else if a0 = 3 then
    some (S.1 304, S)
  else if a0 = 4 then
    some (S.1 3201, S)
  else if a0 = 5 then
    some (S.1 3203, S)
  else 
    some ((-1), S)
set_option maxHeartbeats 4000000 in
set_option maxRecDepth 100000 in
theorem t_X10_count {g : z_G} {K : z_K} (n : Nat) {v : Int32} {S' : z_Stt} (cx : z_C g M_X10_count 3 K) (ce : z_E' g M_X10_count (z_P g (some (.int v)) S') K) (a0 : Int32) (S : z_Stt) (h : f_X10_count n a0 S = some (v, S')) : z_At g M_X10_count K 0 [some (.ref (z_ad g 0)), some (.int a0)] [] (hp g S) := by
  unfold f_X10_count at h
  refine z_iload_n cx rfl rfl dX10_count_0 ?_
  by_cases c1 : a0 = 0
  · have h := g_t c1 h
    refine z_tableIn (tgt := 40) (off := 39) cx (by rw [c1]; decide +kernel) (by rw [c1]; decide +kernel) (by rw [c1]; decide +kernel) (by decide) dX10_count_1 ?_
    refine z_aload_n cx rfl rfl dX10_count_40 ?_
    refine q_getF (k := 0) (n := 1) (r := 1) cx z_cl10 (j := 0) (by decide) tb_16 rfl (by decide) rfl rfl rfl dX10_count_41 ?_
    refine q_getI (k := 1) (n := 101) cx z_cl9 (j := 1) (by decide) tb_170 rfl (by decide) rfl rfl rfl dX10_count_44 ?_
    obtain ⟨rfl, rfl⟩ := g_some h
    exact z_ireturn cx ce rfl ⟨rfl, rfl⟩ dX10_count_47
  have h := g_f c1 h
  by_cases c2 : a0 = 1
  · have h := g_t c2 h
    refine z_tableIn (tgt := 48) (off := 47) cx (by rw [c2]; decide +kernel) (by rw [c2]; decide +kernel) (by rw [c2]; decide +kernel) (by decide) dX10_count_1 ?_
    refine z_aload_n cx rfl rfl dX10_count_48 ?_
    obtain ⟨v3, S4, e5, h⟩ := g_bd_ex h
    refine q_cvi (As := []) cx mo_X10_countMarked mv_X10_countMarked z_cl10 rfl tb_1236 (by decide) rfl (by decide) rfl rfl (Nat.le_of_ble_eq_true rfl) dX10_count_49 (c_X10_countMarked  _ e5) ?_
    obtain ⟨rfl, rfl⟩ := g_some h
    exact z_ireturn cx ce rfl ⟨rfl, rfl⟩ dX10_count_52
  have h := g_f c2 h
  by_cases c6 : a0 = 2
  · have h := g_t c6 h
    refine z_tableIn (tgt := 53) (off := 52) cx (by rw [c6]; decide +kernel) (by rw [c6]; decide +kernel) (by rw [c6]; decide +kernel) (by decide) dX10_count_1 ?_
    refine z_aload_n cx rfl rfl dX10_count_53 ?_
    refine q_getF (k := 0) (n := 13) (r := 13) cx z_cl10 (j := 5) (by decide) tb_30 rfl (by decide) rfl rfl rfl dX10_count_54 ?_
    refine q_getI (k := 13) (n := 1301) cx z_cl6 (j := 1) (by decide) tb_317 rfl (by decide) rfl rfl rfl dX10_count_57 ?_
    obtain ⟨rfl, rfl⟩ := g_some h
    exact z_ireturn cx ce rfl ⟨rfl, rfl⟩ dX10_count_60
  have h := g_f c6 h
  by_cases c7 : a0 = 3
  · have h := g_t c7 h
    refine z_tableIn (tgt := 61) (off := 60) cx (by rw [c7]; decide +kernel) (by rw [c7]; decide +kernel) (by rw [c7]; decide +kernel) (by decide) dX10_count_1 ?_
    refine z_aload_n cx rfl rfl dX10_count_61 ?_
    refine q_getF (k := 0) (n := 3) (r := 3) cx z_cl10 (j := 1) (by decide) tb_20 rfl (by decide) rfl rfl rfl dX10_count_62 ?_
    refine q_getI (k := 3) (n := 304) cx z_cl0 (j := 4) (by decide) tb_1027 rfl (by decide) rfl rfl rfl dX10_count_65 ?_
    obtain ⟨rfl, rfl⟩ := g_some h
    exact z_ireturn cx ce rfl ⟨rfl, rfl⟩ dX10_count_68
  have h := g_f c7 h
  by_cases c8 : a0 = 4
  · have h := g_t c8 h
    refine z_tableIn (tgt := 69) (off := 68) cx (by rw [c8]; decide +kernel) (by rw [c8]; decide +kernel) (by rw [c8]; decide +kernel) (by decide) dX10_count_1 ?_
    refine z_aload_n cx rfl rfl dX10_count_69 ?_
    refine q_getF (k := 0) (n := 32) (r := 32) cx z_cl10 (j := 10) (by decide) tb_50 rfl (by decide) rfl rfl rfl dX10_count_70 ?_
    refine q_getI (k := 32) (n := 3201) cx z_cl5 (j := 1) (by decide) tb_1054 rfl (by decide) rfl rfl rfl dX10_count_73 ?_
    obtain ⟨rfl, rfl⟩ := g_some h
    exact z_ireturn cx ce rfl ⟨rfl, rfl⟩ dX10_count_76
  have h := g_f c8 h
  by_cases c9 : a0 = 5
  · have h := g_t c9 h
    refine z_tableIn (tgt := 77) (off := 76) cx (by rw [c9]; decide +kernel) (by rw [c9]; decide +kernel) (by rw [c9]; decide +kernel) (by decide) dX10_count_1 ?_
    refine z_aload_n cx rfl rfl dX10_count_77 ?_
    refine q_getF (k := 0) (n := 32) (r := 32) cx z_cl10 (j := 10) (by decide) tb_50 rfl (by decide) rfl rfl rfl dX10_count_78 ?_
    refine q_getI (k := 32) (n := 3203) cx z_cl5 (j := 3) (by decide) tb_1068 rfl (by decide) rfl rfl rfl dX10_count_81 ?_
    obtain ⟨rfl, rfl⟩ := g_some h
    exact z_ireturn cx ce rfl ⟨rfl, rfl⟩ dX10_count_84
  have h := g_f c9 h
  refine q_tableD (tgt := 85) (lo := 0) (hi := 5) cx [0, 1, 2, 3, 4, 5] (by decide +kernel) (by intro a ha; simp only [List.mem_cons, List.not_mem_nil, or_false] at ha; rcases ha with rfl | rfl | rfl | rfl | rfl | rfl <;> assumption) (by decide) dX10_count_1 ?_
  refine z_iconst (v := (-1)) cx (by decide +kernel) dX10_count_85 ?_
  obtain ⟨rfl, rfl⟩ := g_some h
  exact z_ireturn cx ce rfl ⟨rfl, rfl⟩ dX10_count_86
theorem c_X10_count {g : z_G} {n : Nat} (a0 : Int32) (S : z_Stt) {v : Int32} {S' : z_Stt} (h : f_X10_count n a0 S = some (v, S')) : z_Ct g M_X10_count 3 [.ref (z_ad g 0), .int a0] (hp g S) (z_P g (some (.int v)) S') :=
  z_Ct.of (by decide +kernel) rfl (Nat.le_of_ble_eq_true rfl) (fun K cx ce => q_weak (L' := [some (.ref (z_ad g 0)), some (.int a0)]) (z_wk_s (z_wk_s (z_wk_0))) (t_X10_count n cx ce a0 S h))
