abbrev M_X9_come : z_M := (RX9, yX9_come, cX9_come, 6, some .int)
theorem mo_X9_come : z_mo M_X9_come 4 := ⟨tb_177, tb_15, rfl, ⟨by decide +kernel, by decide +kernel⟩, by decide +kernel, by decide⟩
theorem mv_X9_come : z_mv M_X9_come := ⟨tb_175, tb_176⟩
def f_X9_come (a0 : Int32) (a1 : Int32) (a2 : Int32) (a3 : Int32) (S : z_Stt) : Option (Int32 × z_Stt) :=
  if S.1 101 < 6 then
    if ¬ (0 + (S.1 101) < 0 ∨ 75 ≤ (0 + (S.1 101)).toNatClampNeg) then
      g_let (sA S 2 (upd (S.2.2.1 2) (0 + (S.1 101)).toNatClampNeg a0)) fun S3 =>
      if ¬ (6 + (S.1 101) < 0 ∨ 75 ≤ (6 + (S.1 101)).toNatClampNeg) then
        g_let (sA S3 2 (upd (S3.2.2.1 2) (6 + (S.1 101)).toNatClampNeg a1)) fun S6 =>
        if ¬ (12 + (S.1 101) < 0 ∨ 75 ≤ (12 + (S.1 101)).toNatClampNeg) then
          g_let (sA S6 2 (upd (S6.2.2.1 2) (12 + (S.1 101)).toNatClampNeg a2)) fun S9 =>
          if ¬ (18 + (S.1 101) < 0 ∨ 75 ≤ (18 + (S.1 101)).toNatClampNeg) then
            g_let (sA S9 2 (upd (S9.2.2.1 2) (18 + (S.1 101)).toNatClampNeg a3)) fun S12 =>
            g_let (sI S12 101 ((S12.1 101) + 1)) fun S14 =>
            some (S.1 101, S14)
          else none
        else none
      else none
    else none
  else
    some ((-3), S)
set_option maxHeartbeats 4000000 in
set_option maxRecDepth 100000 in
theorem t_X9_come {g : z_G} {K : z_K} {v : Int32} {S' : z_Stt} (cx : z_C g M_X9_come 0 K) (ce : z_E' g M_X9_come (z_P g (some (.int v)) S') K) (a0 : Int32) (a1 : Int32) (a2 : Int32) (a3 : Int32) (S : z_Stt) (h : f_X9_come a0 a1 a2 a3 S = some (v, S')) : z_At g M_X9_come K 0 [some (.ref (z_ad g 1)), some (.int a0), some (.int a1), some (.int a2), some (.int a3), none] [] (hp g S) := by
  unfold f_X9_come at h
  refine z_aload_n cx rfl rfl dX9_come_0 ?_
  refine q_getI (k := 1) (n := 101) cx z_cl9 (j := 1) (by decide) tb_61 rfl (by decide) rfl rfl rfl dX9_come_1 ?_
  refine z_istore (L' := [some (.ref (z_ad g 1)), some (.int a0), some (.int a1), some (.int a2), some (.int a3), some (.int (S.1 101))]) cx (by decide) rfl dX9_come_4 ?_
  refine z_iload cx rfl dX9_come_6 ?_
  refine z_bipush (v := 6) cx (by decide +kernel) dX9_come_8 ?_
  refine z_icmp_lt (tgt := 16) cx (by decide) dX9_come_10 (fun c1 => ?_) (fun c1 => ?_)
  · have h := g_t c1 h
    refine z_aload_n cx rfl rfl dX9_come_16 ?_
    refine q_getF (k := 1) (n := 2) (r := 1) cx z_cl9 (j := 0) (by decide) tb_60 rfl (by decide) rfl rfl rfl dX9_come_17 ?_
    refine z_iconst (v := 0) cx (by decide +kernel) dX9_come_20 ?_
    refine z_iload cx rfl dX9_come_21 ?_
    refine z_iadd cx dX9_come_23 ?_
    refine z_iload_n cx rfl rfl dX9_come_24 ?_
    obtain ⟨c2, h⟩ := g_if h
    refine q_iast cx (by decide) rfl c2 dX9_come_25 ?_
    obtain ⟨S3, e4, h⟩ := g_let_ex h
    rw [← e4]
    refine z_aload_n cx rfl rfl dX9_come_26 ?_
    refine q_getF (k := 1) (n := 2) (r := 1) cx z_cl9 (j := 0) (by decide) tb_60 rfl (by decide) rfl rfl rfl dX9_come_27 ?_
    refine z_bipush (v := 6) cx (by decide +kernel) dX9_come_30 ?_
    refine z_iload cx rfl dX9_come_32 ?_
    refine z_iadd cx dX9_come_34 ?_
    refine z_iload_n cx rfl rfl dX9_come_35 ?_
    obtain ⟨c5, h⟩ := g_if h
    refine q_iast cx (by decide) rfl c5 dX9_come_36 ?_
    obtain ⟨S6, e7, h⟩ := g_let_ex h
    rw [← e7]
    refine z_aload_n cx rfl rfl dX9_come_37 ?_
    refine q_getF (k := 1) (n := 2) (r := 1) cx z_cl9 (j := 0) (by decide) tb_60 rfl (by decide) rfl rfl rfl dX9_come_38 ?_
    refine z_bipush (v := 12) cx (by decide +kernel) dX9_come_41 ?_
    refine z_iload cx rfl dX9_come_43 ?_
    refine z_iadd cx dX9_come_45 ?_
    refine z_iload_n cx rfl rfl dX9_come_46 ?_
    obtain ⟨c8, h⟩ := g_if h
    refine q_iast cx (by decide) rfl c8 dX9_come_47 ?_
    obtain ⟨S9, e10, h⟩ := g_let_ex h
    rw [← e10]
    refine z_aload_n cx rfl rfl dX9_come_48 ?_
    refine q_getF (k := 1) (n := 2) (r := 1) cx z_cl9 (j := 0) (by decide) tb_60 rfl (by decide) rfl rfl rfl dX9_come_49 ?_
    refine z_bipush (v := 18) cx (by decide +kernel) dX9_come_52 ?_
    refine z_iload cx rfl dX9_come_54 ?_
    refine z_iadd cx dX9_come_56 ?_
    refine z_iload cx rfl dX9_come_57 ?_
    obtain ⟨c11, h⟩ := g_if h
    refine q_iast cx (by decide) rfl c11 dX9_come_59 ?_
    obtain ⟨S12, e13, h⟩ := g_let_ex h
    rw [← e13]
    refine z_aload_n cx rfl rfl dX9_come_60 ?_
    refine z_dup cx rfl dX9_come_61 ?_
    refine q_getI (k := 1) (n := 101) cx z_cl9 (j := 1) (by decide) tb_61 rfl (by decide) rfl rfl rfl dX9_come_62 ?_
    refine z_iconst (v := 1) cx (by decide +kernel) dX9_come_65 ?_
    refine z_iadd cx dX9_come_66 ?_
    refine q_putI (k := 1) (n := 101) cx z_cl9 (j := 1) (by decide) tb_61 rfl rfl rfl (by decide) rfl rfl rfl (by decide) (by decide) dX9_come_67 ?_
    obtain ⟨S14, e15, h⟩ := g_let_ex h
    rw [← e15]
    refine z_iload cx rfl dX9_come_70 ?_
    obtain ⟨rfl, rfl⟩ := g_some h
    exact z_ireturn cx ce rfl ⟨rfl, rfl⟩ dX9_come_72
  · have h := g_f c1 h
    refine z_bipush (v := (-3)) cx (by decide +kernel) dX9_come_13 ?_
    obtain ⟨rfl, rfl⟩ := g_some h
    exact z_ireturn cx ce rfl ⟨rfl, rfl⟩ dX9_come_15
theorem c_X9_come {g : z_G} (a0 : Int32) (a1 : Int32) (a2 : Int32) (a3 : Int32) (S : z_Stt) {v : Int32} {S' : z_Stt} (h : f_X9_come a0 a1 a2 a3 S = some (v, S')) : z_Ct g M_X9_come 0 [.ref (z_ad g 1), .int a0, .int a1, .int a2, .int a3] (hp g S) (z_P g (some (.int v)) S') :=
  z_Ct.of (by decide +kernel) rfl (Nat.le_of_ble_eq_true rfl) (fun K cx ce => q_weak (L' := [some (.ref (z_ad g 1)), some (.int a0), some (.int a1), some (.int a2), some (.int a3), none]) (z_wk_s (z_wk_s (z_wk_s (z_wk_s (z_wk_s (z_wk_e (z_wk_0))))))) (t_X9_come cx ce a0 a1 a2 a3 S h))
abbrev M_X9_between : z_M := (RX9, yX9_between, cX9_between, 2, some .int)
theorem mo_X9_between : z_mo M_X9_between 2 := ⟨tb_236, tb_15, rfl, ⟨by decide +kernel, by decide +kernel⟩, by decide +kernel, by decide⟩
theorem ms_X9_between : z_ms M_X9_between := tb_235
def f_X9_between (a0 : Int32) (a1 : Int32) (S : z_Stt) : Option (Int32 × z_Stt) :=
  some ((39 + (6 * (if a1 < a0 then a1 else a0))) + (if a0 < a1 then a1 else a0), S)
set_option maxHeartbeats 4000000 in
set_option maxRecDepth 100000 in
theorem t_X9_between {g : z_G} {K : z_K} {v : Int32} {S' : z_Stt} (cx : z_C g M_X9_between 1 K) (ce : z_E' g M_X9_between (z_P g (some (.int v)) S') K) (a0 : Int32) (a1 : Int32) (S : z_Stt) (h : f_X9_between a0 a1 S = some (v, S')) : z_At g M_X9_between K 0 [some (.int a0), some (.int a1)] [] (hp g S) := by
  unfold f_X9_between at h
  refine z_bipush (v := 39) cx (by decide +kernel) dX9_between_0 ?_
  refine z_bipush (v := 6) cx (by decide +kernel) dX9_between_2 ?_
  refine z_iload_n cx rfl rfl dX9_between_4 ?_
  refine z_iload_n cx rfl rfl dX9_between_5 ?_
  refine z_mmin cx tb_237 tb_238 tb_239 tb_240 (by decide) (Nat.le_of_ble_eq_true rfl) dX9_between_6 ?_
  refine z_imul cx dX9_between_9 ?_
  refine z_iadd cx dX9_between_10 ?_
  refine z_iload_n cx rfl rfl dX9_between_11 ?_
  refine z_iload_n cx rfl rfl dX9_between_12 ?_
  refine z_mmax cx tb_241 tb_242 tb_239 tb_243 (by decide) (Nat.le_of_ble_eq_true rfl) dX9_between_13 ?_
  refine z_iadd cx dX9_between_16 ?_
  obtain ⟨rfl, rfl⟩ := g_some h
  exact z_ireturn cx ce rfl ⟨rfl, rfl⟩ dX9_between_17
theorem c_X9_between {g : z_G} (a0 : Int32) (a1 : Int32) (S : z_Stt) {v : Int32} {S' : z_Stt} (h : f_X9_between a0 a1 S = some (v, S')) : z_Ct g M_X9_between 1 [.int a0, .int a1] (hp g S) (z_P g (some (.int v)) S') :=
  z_Ct.of (by decide +kernel) rfl (Nat.le_of_ble_eq_true rfl) (fun K cx ce => q_weak (L' := [some (.int a0), some (.int a1)]) (z_wk_s (z_wk_s (z_wk_0))) (t_X9_between cx ce a0 a1 S h))
abbrev M_X9_placeOf : z_M := (RX9, yX9_placeOf, cX9_placeOf, 5, some .int)
theorem mo_X9_placeOf : z_mo M_X9_placeOf 2 := ⟨tb_233, tb_15, rfl, ⟨by decide +kernel, by decide +kernel⟩, by decide +kernel, by decide⟩
theorem mv_X9_placeOf : z_mv M_X9_placeOf := ⟨tb_231, tb_232⟩
def f_X9_placeOf (a0 : Int32) (a1 : Int32) (S : z_Stt) : Option (Int32 × z_Stt) :=
  if a0 < 0 then
    some ((-1), S)
  else
    if a1 < 0 then
      some ((-1), S)
    else
      if a1 ≤ 9 then
        if 5 < a1 then
          if 9 ≤ a1 then
            if 6 ≤ a0 / 10 then
              some ((-1), S)
            else
              if 6 ≤ a0 % 10 then
                some ((-1), S)
              else
                if a0 / 10 = a0 % 10 then
                  some ((-1), S)
                else
                  g_bd (f_X9_between (a0 / 10) (a0 % 10) S) fun v9 S10 =>
                  some (v9, S10)
          else
            if a0 = 0 then
              some ((36 + a1) - 6, S)
            else
              some ((-1), S)
        else
          if S.1 101 ≤ a0 then
            some ((-1), S)
          else
            some ((6 * a1) + a0, S)
      else
        some ((-1), S)
set_option maxHeartbeats 4000000 in
set_option maxRecDepth 100000 in
theorem t_X9_placeOf {g : z_G} {K : z_K} {v : Int32} {S' : z_Stt} (cx : z_C g M_X9_placeOf 2 K) (ce : z_E' g M_X9_placeOf (z_P g (some (.int v)) S') K) (a0 : Int32) (a1 : Int32) (S : z_Stt) (h : f_X9_placeOf a0 a1 S = some (v, S')) : z_At g M_X9_placeOf K 0 [some (.ref (z_ad g 1)), some (.int a0), some (.int a1), none, none] [] (hp g S) := by
  unfold f_X9_placeOf at h
  refine z_iload_n cx rfl rfl dX9_placeOf_0 ?_
  refine z_if_lt (tgt := 14) cx (by decide) dX9_placeOf_1 (fun c1 => ?_) (fun c1 => ?_)
  · have h := g_t c1 h
    refine z_iconst (v := (-1)) cx (by decide +kernel) dX9_placeOf_14 ?_
    obtain ⟨rfl, rfl⟩ := g_some h
    exact z_ireturn cx ce rfl ⟨rfl, rfl⟩ dX9_placeOf_15
  · have h := g_f c1 h
    refine z_iload_n cx rfl rfl dX9_placeOf_4 ?_
    refine z_if_lt (tgt := 14) cx (by decide) dX9_placeOf_5 (fun c2 => ?_) (fun c2 => ?_)
    · have h := g_t c2 h
      refine z_iconst (v := (-1)) cx (by decide +kernel) dX9_placeOf_14 ?_
      obtain ⟨rfl, rfl⟩ := g_some h
      exact z_ireturn cx ce rfl ⟨rfl, rfl⟩ dX9_placeOf_15
    · have h := g_f c2 h
      refine z_iload_n cx rfl rfl dX9_placeOf_8 ?_
      refine z_bipush (v := 9) cx (by decide +kernel) dX9_placeOf_9 ?_
      refine z_icmp_le (tgt := 16) cx (by decide) dX9_placeOf_11 (fun c3 => ?_) (fun c3 => ?_)
      · have h := g_t c3 h
        refine z_iload_n cx rfl rfl dX9_placeOf_16 ?_
        refine z_iconst (v := 5) cx (by decide +kernel) dX9_placeOf_17 ?_
        refine z_icmp_gt (tgt := 40) cx (by decide) dX9_placeOf_18 (fun c4 => ?_) (fun c4 => ?_)
        · have h := g_t c4 h
          refine z_iload_n cx rfl rfl dX9_placeOf_40 ?_
          refine z_bipush (v := 9) cx (by decide +kernel) dX9_placeOf_41 ?_
          refine z_icmp_ge (tgt := 62) cx (by decide) dX9_placeOf_43 (fun c5 => ?_) (fun c5 => ?_)
          · have h := g_t c5 h
            refine z_iload_n cx rfl rfl dX9_placeOf_62 ?_
            refine z_bipush (v := 10) cx (by decide +kernel) dX9_placeOf_63 ?_
            refine z_idiv cx (by decide +kernel) dX9_placeOf_65 ?_
            refine z_istore_n (L' := [some (.ref (z_ad g 1)), some (.int a0), some (.int a1), some (.int (a0 / 10)), none]) cx rfl (by decide) rfl dX9_placeOf_66 ?_
            refine z_iload_n cx rfl rfl dX9_placeOf_67 ?_
            refine z_bipush (v := 10) cx (by decide +kernel) dX9_placeOf_68 ?_
            refine z_irem cx (by decide +kernel) dX9_placeOf_70 ?_
            refine z_istore (L' := [some (.ref (z_ad g 1)), some (.int a0), some (.int a1), some (.int (a0 / 10)), some (.int (a0 % 10))]) cx (by decide) rfl dX9_placeOf_71 ?_
            refine z_iload_n cx rfl rfl dX9_placeOf_73 ?_
            refine z_bipush (v := 6) cx (by decide +kernel) dX9_placeOf_74 ?_
            refine z_icmp_ge (tgt := 101) cx (by decide) dX9_placeOf_76 (fun c6 => ?_) (fun c6 => ?_)
            · have h := g_t c6 h
              refine z_iconst (v := (-1)) cx (by decide +kernel) dX9_placeOf_101 ?_
              obtain ⟨rfl, rfl⟩ := g_some h
              exact z_ireturn cx ce rfl ⟨rfl, rfl⟩ dX9_placeOf_102
            · have h := g_f c6 h
              refine z_iload cx rfl dX9_placeOf_79 ?_
              refine z_bipush (v := 6) cx (by decide +kernel) dX9_placeOf_81 ?_
              refine z_icmp_ge (tgt := 101) cx (by decide) dX9_placeOf_83 (fun c7 => ?_) (fun c7 => ?_)
              · have h := g_t c7 h
                refine z_iconst (v := (-1)) cx (by decide +kernel) dX9_placeOf_101 ?_
                obtain ⟨rfl, rfl⟩ := g_some h
                exact z_ireturn cx ce rfl ⟨rfl, rfl⟩ dX9_placeOf_102
              · have h := g_f c7 h
                refine z_iload_n cx rfl rfl dX9_placeOf_86 ?_
                refine z_iload cx rfl dX9_placeOf_87 ?_
                refine z_icmp_eq (tgt := 101) cx (by decide) dX9_placeOf_89 (fun c8 => ?_) (fun c8 => ?_)
                · have h := g_t c8 h
                  refine z_iconst (v := (-1)) cx (by decide +kernel) dX9_placeOf_101 ?_
                  obtain ⟨rfl, rfl⟩ := g_some h
                  exact z_ireturn cx ce rfl ⟨rfl, rfl⟩ dX9_placeOf_102
                · have h := g_f c8 h
                  refine z_iload_n cx rfl rfl dX9_placeOf_92 ?_
                  refine z_iload cx rfl dX9_placeOf_93 ?_
                  obtain ⟨v9, S10, e11, h⟩ := g_bd_ex h
                  refine q_csi (As := [.int (a0 / 10), .int (a0 % 10)]) cx mo_X9_between ms_X9_between tb_234 (by decide) rfl rfl (Nat.le_of_ble_eq_true rfl) dX9_placeOf_95 (c_X9_between (a0 / 10) (a0 % 10) _ e11) ?_
                  refine z_goto (tgt := 102) cx (by decide) dX9_placeOf_98 ?_
                  obtain ⟨rfl, rfl⟩ := g_some h
                  exact z_ireturn cx ce rfl ⟨rfl, rfl⟩ dX9_placeOf_102
          · have h := g_f c5 h
            refine z_iload_n cx rfl rfl dX9_placeOf_46 ?_
            refine z_if_ne (tgt := 60) cx (by decide) dX9_placeOf_47 (fun c12 => ?_) (fun c12 => ?_)
            · have h := g_f c12 h
              refine z_iconst (v := (-1)) cx (by decide +kernel) dX9_placeOf_60 ?_
              obtain ⟨rfl, rfl⟩ := g_some h
              exact z_ireturn cx ce rfl ⟨rfl, rfl⟩ dX9_placeOf_61
            · have h := g_t c12 h
              refine z_bipush (v := 36) cx (by decide +kernel) dX9_placeOf_50 ?_
              refine z_iload_n cx rfl rfl dX9_placeOf_52 ?_
              refine z_iadd cx dX9_placeOf_53 ?_
              refine z_bipush (v := 6) cx (by decide +kernel) dX9_placeOf_54 ?_
              refine z_isub cx dX9_placeOf_56 ?_
              refine z_goto (tgt := 61) cx (by decide) dX9_placeOf_57 ?_
              obtain ⟨rfl, rfl⟩ := g_some h
              exact z_ireturn cx ce rfl ⟨rfl, rfl⟩ dX9_placeOf_61
        · have h := g_f c4 h
          refine z_iload_n cx rfl rfl dX9_placeOf_21 ?_
          refine z_aload_n cx rfl rfl dX9_placeOf_22 ?_
          refine q_getI (k := 1) (n := 101) cx z_cl9 (j := 1) (by decide) tb_61 rfl (by decide) rfl rfl rfl dX9_placeOf_23 ?_
          refine z_icmp_ge (tgt := 38) cx (by decide) dX9_placeOf_26 (fun c13 => ?_) (fun c13 => ?_)
          · have h := g_t c13 h
            refine z_iconst (v := (-1)) cx (by decide +kernel) dX9_placeOf_38 ?_
            obtain ⟨rfl, rfl⟩ := g_some h
            exact z_ireturn cx ce rfl ⟨rfl, rfl⟩ dX9_placeOf_39
          · have h := g_f c13 h
            refine z_bipush (v := 6) cx (by decide +kernel) dX9_placeOf_29 ?_
            refine z_iload_n cx rfl rfl dX9_placeOf_31 ?_
            refine z_imul cx dX9_placeOf_32 ?_
            refine z_iload_n cx rfl rfl dX9_placeOf_33 ?_
            refine z_iadd cx dX9_placeOf_34 ?_
            refine z_goto (tgt := 39) cx (by decide) dX9_placeOf_35 ?_
            obtain ⟨rfl, rfl⟩ := g_some h
            exact z_ireturn cx ce rfl ⟨rfl, rfl⟩ dX9_placeOf_39
      · have h := g_f c3 h
        refine z_iconst (v := (-1)) cx (by decide +kernel) dX9_placeOf_14 ?_
        obtain ⟨rfl, rfl⟩ := g_some h
        exact z_ireturn cx ce rfl ⟨rfl, rfl⟩ dX9_placeOf_15
theorem c_X9_placeOf {g : z_G} (a0 : Int32) (a1 : Int32) (S : z_Stt) {v : Int32} {S' : z_Stt} (h : f_X9_placeOf a0 a1 S = some (v, S')) : z_Ct g M_X9_placeOf 2 [.ref (z_ad g 1), .int a0, .int a1] (hp g S) (z_P g (some (.int v)) S') :=
  z_Ct.of (by decide +kernel) rfl (Nat.le_of_ble_eq_true rfl) (fun K cx ce => q_weak (L' := [some (.ref (z_ad g 1)), some (.int a0), some (.int a1), none, none]) (z_wk_s (z_wk_s (z_wk_s (z_wk_e (z_wk_e (z_wk_0)))))) (t_X9_placeOf cx ce a0 a1 S h))
abbrev M_X9_mostOf : z_M := (RX9, yX9_mostOf, cX9_mostOf, 2, some .int)
theorem mo_X9_mostOf : z_mo M_X9_mostOf 1 := ⟨tb_247, tb_15, rfl, ⟨by decide +kernel, by decide +kernel⟩, by decide +kernel, by decide⟩
theorem mv_X9_mostOf : z_mv M_X9_mostOf := ⟨tb_245, tb_246⟩
def f_X9_mostOf (a0 : Int32) (S : z_Stt) : Option (Int32 × z_Stt) :=
  if a0 < 0 then
    some ((-1), S)
  else
    if 10 ≤ a0 then
      some ((-1), S)
    else
      if ¬ (a0 < 0 ∨ 10 ≤ a0.toNatClampNeg) then
        some (st_MOST a0.toNatClampNeg, S)
      else none
set_option maxHeartbeats 4000000 in
set_option maxRecDepth 100000 in
theorem t_X9_mostOf {g : z_G} {K : z_K} {v : Int32} {S' : z_Stt} (cx : z_C g M_X9_mostOf 0 K) (ce : z_E' g M_X9_mostOf (z_P g (some (.int v)) S') K) (a0 : Int32) (S : z_Stt) (h : f_X9_mostOf a0 S = some (v, S')) : z_At g M_X9_mostOf K 0 [some (.ref (z_ad g 1)), some (.int a0)] [] (hp g S) := by
  unfold f_X9_mostOf at h
  refine z_iload_n cx rfl rfl dX9_mostOf_0 ?_
  refine z_if_lt (tgt := 20) cx (by decide) dX9_mostOf_1 (fun c1 => ?_) (fun c1 => ?_)
  · have h := g_t c1 h
    refine z_iconst (v := (-1)) cx (by decide +kernel) dX9_mostOf_20 ?_
    obtain ⟨rfl, rfl⟩ := g_some h
    exact z_ireturn cx ce rfl ⟨rfl, rfl⟩ dX9_mostOf_21
  · have h := g_f c1 h
    refine z_iload_n cx rfl rfl dX9_mostOf_4 ?_
    refine z_gets0 cx tb_248 dX9_mostOf_5 ?_
    refine z_tlen0 cx dX9_mostOf_8 ?_
    refine z_icmp_ge (tgt := 20) cx (by decide) dX9_mostOf_9 (fun c2 => ?_) (fun c2 => ?_)
    · have h := g_t c2 h
      refine z_iconst (v := (-1)) cx (by decide +kernel) dX9_mostOf_20 ?_
      obtain ⟨rfl, rfl⟩ := g_some h
      exact z_ireturn cx ce rfl ⟨rfl, rfl⟩ dX9_mostOf_21
    · have h := g_f c2 h
      refine z_gets0 cx tb_248 dX9_mostOf_12 ?_
      refine z_iload_n cx rfl rfl dX9_mostOf_15 ?_
      obtain ⟨c3, h⟩ := g_if h
      refine z_ti0 cx c3 dX9_mostOf_16 ?_
      refine z_goto (tgt := 21) cx (by decide) dX9_mostOf_17 ?_
      obtain ⟨rfl, rfl⟩ := g_some h
      exact z_ireturn cx ce rfl ⟨rfl, rfl⟩ dX9_mostOf_21
theorem c_X9_mostOf {g : z_G} (a0 : Int32) (S : z_Stt) {v : Int32} {S' : z_Stt} (h : f_X9_mostOf a0 S = some (v, S')) : z_Ct g M_X9_mostOf 0 [.ref (z_ad g 1), .int a0] (hp g S) (z_P g (some (.int v)) S') :=
  z_Ct.of (by decide +kernel) rfl (Nat.le_of_ble_eq_true rfl) (fun K cx ce => q_weak (L' := [some (.ref (z_ad g 1)), some (.int a0)]) (z_wk_s (z_wk_s (z_wk_0))) (t_X9_mostOf cx ce a0 S h))
abbrev M_X9_at : z_M := (RX9, yX9_at, cX9_at, 2, some .int)
theorem mo_X9_at : z_mo M_X9_at 1 := ⟨tb_252, tb_15, rfl, ⟨by decide +kernel, by decide +kernel⟩, by decide +kernel, by decide⟩
theorem mv_X9_at : z_mv M_X9_at := ⟨tb_250, tb_251⟩
def f_X9_at (a0 : Int32) (S : z_Stt) : Option (Int32 × z_Stt) :=
  if a0 < 0 then
    some (0, S)
  else
    if 75 ≤ a0 then
      some (0, S)
    else
      if ¬ (a0 < 0 ∨ 75 ≤ a0.toNatClampNeg) then
        some (S.2.2.1 2 a0.toNatClampNeg, S)
      else none
set_option maxHeartbeats 4000000 in
set_option maxRecDepth 100000 in
theorem t_X9_at {g : z_G} {K : z_K} {v : Int32} {S' : z_Stt} (cx : z_C g M_X9_at 0 K) (ce : z_E' g M_X9_at (z_P g (some (.int v)) S') K) (a0 : Int32) (S : z_Stt) (h : f_X9_at a0 S = some (v, S')) : z_At g M_X9_at K 0 [some (.ref (z_ad g 1)), some (.int a0)] [] (hp g S) := by
  unfold f_X9_at at h
  refine z_iload_n cx rfl rfl dX9_at_0 ?_
  refine z_if_lt (tgt := 19) cx (by decide) dX9_at_1 (fun c1 => ?_) (fun c1 => ?_)
  · have h := g_t c1 h
    refine z_iconst (v := 0) cx (by decide +kernel) dX9_at_19 ?_
    obtain ⟨rfl, rfl⟩ := g_some h
    exact z_ireturn cx ce rfl ⟨rfl, rfl⟩ dX9_at_20
  · have h := g_f c1 h
    refine z_iload_n cx rfl rfl dX9_at_4 ?_
    refine z_bipush (v := 75) cx (by decide +kernel) dX9_at_5 ?_
    refine z_icmp_ge (tgt := 19) cx (by decide) dX9_at_7 (fun c2 => ?_) (fun c2 => ?_)
    · have h := g_t c2 h
      refine z_iconst (v := 0) cx (by decide +kernel) dX9_at_19 ?_
      obtain ⟨rfl, rfl⟩ := g_some h
      exact z_ireturn cx ce rfl ⟨rfl, rfl⟩ dX9_at_20
    · have h := g_f c2 h
      refine z_aload_n cx rfl rfl dX9_at_10 ?_
      refine q_getF (k := 1) (n := 2) (r := 1) cx z_cl9 (j := 0) (by decide) tb_60 rfl (by decide) rfl rfl rfl dX9_at_11 ?_
      refine z_iload_n cx rfl rfl dX9_at_14 ?_
      obtain ⟨c3, h⟩ := g_if h
      refine q_iald cx (by decide) rfl c3 dX9_at_15 ?_
      refine z_goto (tgt := 20) cx (by decide) dX9_at_16 ?_
      obtain ⟨rfl, rfl⟩ := g_some h
      exact z_ireturn cx ce rfl ⟨rfl, rfl⟩ dX9_at_20
theorem c_X9_at {g : z_G} (a0 : Int32) (S : z_Stt) {v : Int32} {S' : z_Stt} (h : f_X9_at a0 S = some (v, S')) : z_Ct g M_X9_at 0 [.ref (z_ad g 1), .int a0] (hp g S) (z_P g (some (.int v)) S') :=
  z_Ct.of (by decide +kernel) rfl (Nat.le_of_ble_eq_true rfl) (fun K cx ce => q_weak (L' := [some (.ref (z_ad g 1)), some (.int a0)]) (z_wk_s (z_wk_s (z_wk_0))) (t_X9_at cx ce a0 S h))
abbrev M_X9_become : z_M := (RX9, yX9_become, cX9_become, 3, none)
theorem mo_X9_become : z_mo M_X9_become 2 := ⟨tb_264, tb_15, rfl, ⟨by decide +kernel, by decide +kernel⟩, by decide +kernel, by decide⟩
theorem mv_X9_become : z_mv M_X9_become := ⟨tb_262, tb_263⟩
def f_X9_become (a0 : Int32) (a1 : Int32) (S : z_Stt) : Option (Unit × z_Stt) :=
  if a0 < 0 then
    some ((), S)
  else
    if 75 ≤ a0 then
      some ((), S)
    else
      if ¬ (a0 < 0 ∨ 75 ≤ a0.toNatClampNeg) then
        g_let (sA S 2 (upd (S.2.2.1 2) a0.toNatClampNeg a1)) fun S4 =>
        some ((), S4)
      else none
set_option maxHeartbeats 4000000 in
set_option maxRecDepth 100000 in
theorem t_X9_become {g : z_G} {K : z_K} {v : Unit} {S' : z_Stt} (cx : z_C g M_X9_become 0 K) (ce : z_E' g M_X9_become (z_P g (none) S') K) (a0 : Int32) (a1 : Int32) (S : z_Stt) (h : f_X9_become a0 a1 S = some (v, S')) : z_At g M_X9_become K 0 [some (.ref (z_ad g 1)), some (.int a0), some (.int a1)] [] (hp g S) := by
  unfold f_X9_become at h
  refine z_iload_n cx rfl rfl dX9_become_0 ?_
  refine z_if_lt (tgt := 17) cx (by decide) dX9_become_1 (fun c1 => ?_) (fun c1 => ?_)
  · have h := g_t c1 h
    obtain ⟨rfl, rfl⟩ := g_some h
    exact z_return cx ce rfl ⟨rfl, rfl⟩ dX9_become_17
  · have h := g_f c1 h
    refine z_iload_n cx rfl rfl dX9_become_4 ?_
    refine z_bipush (v := 75) cx (by decide +kernel) dX9_become_5 ?_
    refine z_icmp_ge (tgt := 17) cx (by decide) dX9_become_7 (fun c2 => ?_) (fun c2 => ?_)
    · have h := g_t c2 h
      obtain ⟨rfl, rfl⟩ := g_some h
      exact z_return cx ce rfl ⟨rfl, rfl⟩ dX9_become_17
    · have h := g_f c2 h
      refine z_aload_n cx rfl rfl dX9_become_10 ?_
      refine q_getF (k := 1) (n := 2) (r := 1) cx z_cl9 (j := 0) (by decide) tb_60 rfl (by decide) rfl rfl rfl dX9_become_11 ?_
      refine z_iload_n cx rfl rfl dX9_become_14 ?_
      refine z_iload_n cx rfl rfl dX9_become_15 ?_
      obtain ⟨c3, h⟩ := g_if h
      refine q_iast cx (by decide) rfl c3 dX9_become_16 ?_
      obtain ⟨S4, e5, h⟩ := g_let_ex h
      rw [← e5]
      obtain ⟨rfl, rfl⟩ := g_some h
      exact z_return cx ce rfl ⟨rfl, rfl⟩ dX9_become_17
theorem c_X9_become {g : z_G} (a0 : Int32) (a1 : Int32) (S : z_Stt) {v : Unit} {S' : z_Stt} (h : f_X9_become a0 a1 S = some (v, S')) : z_Ct g M_X9_become 0 [.ref (z_ad g 1), .int a0, .int a1] (hp g S) (z_P g (none) S') :=
  z_Ct.of (by decide +kernel) rfl (Nat.le_of_ble_eq_true rfl) (fun K cx ce => q_weak (L' := [some (.ref (z_ad g 1)), some (.int a0), some (.int a1)]) (z_wk_s (z_wk_s (z_wk_s (z_wk_0)))) (t_X9_become cx ce a0 a1 S h))
abbrev M_X9_ofThing : z_M := (RX9, yX9_ofThing, cX9_ofThing, 3, some .int)
theorem mo_X9_ofThing : z_mo M_X9_ofThing 2 := ⟨tb_452, tb_15, rfl, ⟨by decide +kernel, by decide +kernel⟩, by decide +kernel, by decide⟩
theorem mv_X9_ofThing : z_mv M_X9_ofThing := ⟨tb_450, tb_451⟩
def f_X9_ofThing (a0 : Int32) (a1 : Int32) (S : z_Stt) : Option (Int32 × z_Stt) :=
  if a1 < 0 then
    some (0, S)
  else
    if S.1 101 ≤ a1 then
      some (0, S)
    else
      g_bd (f_X9_at ((6 * a0) + a1) S) fun v3 S4 =>
      some (v3, S4)
set_option maxHeartbeats 4000000 in
set_option maxRecDepth 100000 in
theorem t_X9_ofThing {g : z_G} {K : z_K} {v : Int32} {S' : z_Stt} (cx : z_C g M_X9_ofThing 1 K) (ce : z_E' g M_X9_ofThing (z_P g (some (.int v)) S') K) (a0 : Int32) (a1 : Int32) (S : z_Stt) (h : f_X9_ofThing a0 a1 S = some (v, S')) : z_At g M_X9_ofThing K 0 [some (.ref (z_ad g 1)), some (.int a0), some (.int a1)] [] (hp g S) := by
  unfold f_X9_ofThing at h
  refine z_iload_n cx rfl rfl dX9_ofThing_0 ?_
  refine z_if_lt (tgt := 25) cx (by decide) dX9_ofThing_1 (fun c1 => ?_) (fun c1 => ?_)
  · have h := g_t c1 h
    refine z_iconst (v := 0) cx (by decide +kernel) dX9_ofThing_25 ?_
    obtain ⟨rfl, rfl⟩ := g_some h
    exact z_ireturn cx ce rfl ⟨rfl, rfl⟩ dX9_ofThing_26
  · have h := g_f c1 h
    refine z_iload_n cx rfl rfl dX9_ofThing_4 ?_
    refine z_aload_n cx rfl rfl dX9_ofThing_5 ?_
    refine q_getI (k := 1) (n := 101) cx z_cl9 (j := 1) (by decide) tb_61 rfl (by decide) rfl rfl rfl dX9_ofThing_6 ?_
    refine z_icmp_ge (tgt := 25) cx (by decide) dX9_ofThing_9 (fun c2 => ?_) (fun c2 => ?_)
    · have h := g_t c2 h
      refine z_iconst (v := 0) cx (by decide +kernel) dX9_ofThing_25 ?_
      obtain ⟨rfl, rfl⟩ := g_some h
      exact z_ireturn cx ce rfl ⟨rfl, rfl⟩ dX9_ofThing_26
    · have h := g_f c2 h
      refine z_aload_n cx rfl rfl dX9_ofThing_12 ?_
      refine z_bipush (v := 6) cx (by decide +kernel) dX9_ofThing_13 ?_
      refine z_iload_n cx rfl rfl dX9_ofThing_15 ?_
      refine z_imul cx dX9_ofThing_16 ?_
      refine z_iload_n cx rfl rfl dX9_ofThing_17 ?_
      refine z_iadd cx dX9_ofThing_18 ?_
      obtain ⟨v3, S4, e5, h⟩ := g_bd_ex h
      refine q_cvi (As := [.int ((6 * a0) + a1)]) cx mo_X9_at mv_X9_at z_cl9 rfl tb_453 (by decide) rfl (by decide) rfl rfl (Nat.le_of_ble_eq_true rfl) dX9_ofThing_19 (c_X9_at ((6 * a0) + a1) _ e5) ?_
      refine z_goto (tgt := 26) cx (by decide) dX9_ofThing_22 ?_
      obtain ⟨rfl, rfl⟩ := g_some h
      exact z_ireturn cx ce rfl ⟨rfl, rfl⟩ dX9_ofThing_26
theorem c_X9_ofThing {g : z_G} (a0 : Int32) (a1 : Int32) (S : z_Stt) {v : Int32} {S' : z_Stt} (h : f_X9_ofThing a0 a1 S = some (v, S')) : z_Ct g M_X9_ofThing 1 [.ref (z_ad g 1), .int a0, .int a1] (hp g S) (z_P g (some (.int v)) S') :=
  z_Ct.of (by decide +kernel) rfl (Nat.le_of_ble_eq_true rfl) (fun K cx ce => q_weak (L' := [some (.ref (z_ad g 1)), some (.int a0), some (.int a1)]) (z_wk_s (z_wk_s (z_wk_s (z_wk_0)))) (t_X9_ofThing cx ce a0 a1 S h))
abbrev M_X9_price : z_M := (RX9, yX9_price, cX9_price, 1, some .int)
theorem mo_X9_price : z_mo M_X9_price 0 := ⟨tb_535, tb_15, rfl, ⟨by decide +kernel, by decide +kernel⟩, by decide +kernel, by decide⟩
theorem mv_X9_price : z_mv M_X9_price := ⟨tb_533, tb_534⟩
def f_X9_price (S : z_Stt) : Option (Int32 × z_Stt) :=
  if ¬ ((36 : Int32) < 0 ∨ 75 ≤ (36 : Int32).toNatClampNeg) then
    some (S.2.2.1 2 (36 : Int32).toNatClampNeg, S)
  else none
set_option maxHeartbeats 4000000 in
set_option maxRecDepth 100000 in
theorem t_X9_price {g : z_G} {K : z_K} {v : Int32} {S' : z_Stt} (cx : z_C g M_X9_price 0 K) (ce : z_E' g M_X9_price (z_P g (some (.int v)) S') K) (S : z_Stt) (h : f_X9_price S = some (v, S')) : z_At g M_X9_price K 0 [some (.ref (z_ad g 1))] [] (hp g S) := by
  unfold f_X9_price at h
  refine z_aload_n cx rfl rfl dX9_price_0 ?_
  refine q_getF (k := 1) (n := 2) (r := 1) cx z_cl9 (j := 0) (by decide) tb_60 rfl (by decide) rfl rfl rfl dX9_price_1 ?_
  refine z_bipush (v := 36) cx (by decide +kernel) dX9_price_4 ?_
  obtain ⟨c1, h⟩ := g_if h
  refine q_iald cx (by decide) rfl c1 dX9_price_6 ?_
  obtain ⟨rfl, rfl⟩ := g_some h
  exact z_ireturn cx ce rfl ⟨rfl, rfl⟩ dX9_price_7
theorem c_X9_price {g : z_G} (S : z_Stt) {v : Int32} {S' : z_Stt} (h : f_X9_price S = some (v, S')) : z_Ct g M_X9_price 0 [.ref (z_ad g 1)] (hp g S) (z_P g (some (.int v)) S') :=
  z_Ct.of (by decide +kernel) rfl (Nat.le_of_ble_eq_true rfl) (fun K cx ce => q_weak (L' := [some (.ref (z_ad g 1))]) (z_wk_s (z_wk_0)) (t_X9_price cx ce S h))
abbrev M_X9_look : z_M := (RX9, yX9_look, cX9_look, 1, some .int)
theorem mo_X9_look : z_mo M_X9_look 0 := ⟨tb_617, tb_15, rfl, ⟨by decide +kernel, by decide +kernel⟩, by decide +kernel, by decide⟩
theorem mv_X9_look : z_mv M_X9_look := ⟨tb_615, tb_616⟩
def f_X9_look (S : z_Stt) : Option (Int32 × z_Stt) :=
  if ¬ ((37 : Int32) < 0 ∨ 75 ≤ (37 : Int32).toNatClampNeg) then
    some (S.2.2.1 2 (37 : Int32).toNatClampNeg, S)
  else none
set_option maxHeartbeats 4000000 in
set_option maxRecDepth 100000 in
theorem t_X9_look {g : z_G} {K : z_K} {v : Int32} {S' : z_Stt} (cx : z_C g M_X9_look 0 K) (ce : z_E' g M_X9_look (z_P g (some (.int v)) S') K) (S : z_Stt) (h : f_X9_look S = some (v, S')) : z_At g M_X9_look K 0 [some (.ref (z_ad g 1))] [] (hp g S) := by
  unfold f_X9_look at h
  refine z_aload_n cx rfl rfl dX9_look_0 ?_
  refine q_getF (k := 1) (n := 2) (r := 1) cx z_cl9 (j := 0) (by decide) tb_60 rfl (by decide) rfl rfl rfl dX9_look_1 ?_
  refine z_bipush (v := 37) cx (by decide +kernel) dX9_look_4 ?_
  obtain ⟨c1, h⟩ := g_if h
  refine q_iald cx (by decide) rfl c1 dX9_look_6 ?_
  obtain ⟨rfl, rfl⟩ := g_some h
  exact z_ireturn cx ce rfl ⟨rfl, rfl⟩ dX9_look_7
theorem c_X9_look {g : z_G} (S : z_Stt) {v : Int32} {S' : z_Stt} (h : f_X9_look S = some (v, S')) : z_Ct g M_X9_look 0 [.ref (z_ad g 1)] (hp g S) (z_P g (some (.int v)) S') :=
  z_Ct.of (by decide +kernel) rfl (Nat.le_of_ble_eq_true rfl) (fun K cx ce => q_weak (L' := [some (.ref (z_ad g 1))]) (z_wk_s (z_wk_0)) (t_X9_look cx ce S h))
abbrev M_X9_ring : z_M := (RX9, yX9_ring, cX9_ring, 1, some .int)
theorem mo_X9_ring : z_mo M_X9_ring 0 := ⟨tb_690, tb_15, rfl, ⟨by decide +kernel, by decide +kernel⟩, by decide +kernel, by decide⟩
theorem mv_X9_ring : z_mv M_X9_ring := ⟨tb_688, tb_689⟩
def f_X9_ring (S : z_Stt) : Option (Int32 × z_Stt) :=
  if ¬ ((38 : Int32) < 0 ∨ 75 ≤ (38 : Int32).toNatClampNeg) then
    some (S.2.2.1 2 (38 : Int32).toNatClampNeg, S)
  else none
set_option maxHeartbeats 4000000 in
set_option maxRecDepth 100000 in
theorem t_X9_ring {g : z_G} {K : z_K} {v : Int32} {S' : z_Stt} (cx : z_C g M_X9_ring 0 K) (ce : z_E' g M_X9_ring (z_P g (some (.int v)) S') K) (S : z_Stt) (h : f_X9_ring S = some (v, S')) : z_At g M_X9_ring K 0 [some (.ref (z_ad g 1))] [] (hp g S) := by
  unfold f_X9_ring at h
  refine z_aload_n cx rfl rfl dX9_ring_0 ?_
  refine q_getF (k := 1) (n := 2) (r := 1) cx z_cl9 (j := 0) (by decide) tb_60 rfl (by decide) rfl rfl rfl dX9_ring_1 ?_
  refine z_bipush (v := 38) cx (by decide +kernel) dX9_ring_4 ?_
  obtain ⟨c1, h⟩ := g_if h
  refine q_iald cx (by decide) rfl c1 dX9_ring_6 ?_
  obtain ⟨rfl, rfl⟩ := g_some h
  exact z_ireturn cx ce rfl ⟨rfl, rfl⟩ dX9_ring_7
theorem c_X9_ring {g : z_G} (S : z_Stt) {v : Int32} {S' : z_Stt} (h : f_X9_ring S = some (v, S')) : z_Ct g M_X9_ring 0 [.ref (z_ad g 1)] (hp g S) (z_P g (some (.int v)) S') :=
  z_Ct.of (by decide +kernel) rfl (Nat.le_of_ble_eq_true rfl) (fun K cx ce => q_weak (L' := [some (.ref (z_ad g 1))]) (z_wk_s (z_wk_0)) (t_X9_ring cx ce S h))
abbrev M_X9_yards : z_M := (RX9, yX9_yards, cX9_yards, 3, some .int)
theorem mo_X9_yards : z_mo M_X9_yards 2 := ⟨tb_747, tb_15, rfl, ⟨by decide +kernel, by decide +kernel⟩, by decide +kernel, by decide⟩
theorem mv_X9_yards : z_mv M_X9_yards := ⟨tb_745, tb_746⟩
def f_X9_yards (a0 : Int32) (a1 : Int32) (S : z_Stt) : Option (Int32 × z_Stt) :=
  if a0 = a1 then
    some (0, S)
  else
    g_bd (f_X9_between a0 a1 S) fun v2 S3 =>
    g_bd (f_X9_at v2 S3) fun v5 S6 =>
    some (v5, S6)
set_option maxHeartbeats 4000000 in
set_option maxRecDepth 100000 in
theorem t_X9_yards {g : z_G} {K : z_K} {v : Int32} {S' : z_Stt} (cx : z_C g M_X9_yards 2 K) (ce : z_E' g M_X9_yards (z_P g (some (.int v)) S') K) (a0 : Int32) (a1 : Int32) (S : z_Stt) (h : f_X9_yards a0 a1 S = some (v, S')) : z_At g M_X9_yards K 0 [some (.ref (z_ad g 1)), some (.int a0), some (.int a1)] [] (hp g S) := by
  unfold f_X9_yards at h
  refine z_iload_n cx rfl rfl dX9_yards_0 ?_
  refine z_iload_n cx rfl rfl dX9_yards_1 ?_
  refine z_icmp_ne (tgt := 9) cx (by decide) dX9_yards_2 (fun c1 => ?_) (fun c1 => ?_)
  · have h := g_f c1 h
    refine z_aload_n cx rfl rfl dX9_yards_9 ?_
    refine z_iload_n cx rfl rfl dX9_yards_10 ?_
    refine z_iload_n cx rfl rfl dX9_yards_11 ?_
    obtain ⟨v2, S3, e4, h⟩ := g_bd_ex h
    refine q_csi (As := [.int a0, .int a1]) cx mo_X9_between ms_X9_between tb_234 (by decide) rfl rfl (Nat.le_of_ble_eq_true rfl) dX9_yards_12 (c_X9_between a0 a1 _ e4) ?_
    obtain ⟨v5, S6, e7, h⟩ := g_bd_ex h
    refine q_cvi (As := [.int v2]) cx mo_X9_at mv_X9_at z_cl9 rfl tb_453 (by decide) rfl (by decide) rfl rfl (Nat.le_of_ble_eq_true rfl) dX9_yards_15 (c_X9_at v2 _ e7) ?_
    obtain ⟨rfl, rfl⟩ := g_some h
    exact z_ireturn cx ce rfl ⟨rfl, rfl⟩ dX9_yards_18
  · have h := g_t c1 h
    refine z_iconst (v := 0) cx (by decide +kernel) dX9_yards_5 ?_
    refine z_goto (tgt := 18) cx (by decide) dX9_yards_6 ?_
    obtain ⟨rfl, rfl⟩ := g_some h
    exact z_ireturn cx ce rfl ⟨rfl, rfl⟩ dX9_yards_18
theorem c_X9_yards {g : z_G} (a0 : Int32) (a1 : Int32) (S : z_Stt) {v : Int32} {S' : z_Stt} (h : f_X9_yards a0 a1 S = some (v, S')) : z_Ct g M_X9_yards 2 [.ref (z_ad g 1), .int a0, .int a1] (hp g S) (z_P g (some (.int v)) S') :=
  z_Ct.of (by decide +kernel) rfl (Nat.le_of_ble_eq_true rfl) (fun K cx ce => q_weak (L' := [some (.ref (z_ad g 1)), some (.int a0), some (.int a1)]) (z_wk_s (z_wk_s (z_wk_s (z_wk_0)))) (t_X9_yards cx ce a0 a1 S h))
abbrev M_J6_bitCount_0f7a4 : z_M := (RJ6, yJ6_bitCount_0f7a4, cJ6_bitCount_0f7a4, 1, some .int)
theorem mo_J6_bitCount_0f7a4 : z_mo M_J6_bitCount_0f7a4 1 := ⟨tb_588, tb_587, rfl, ⟨by decide +kernel, by decide +kernel⟩, by decide +kernel, by decide⟩
theorem ms_J6_bitCount_0f7a4 : z_ms M_J6_bitCount_0f7a4 := tb_586
def f_J6_bitCount_0f7a4 (a0 : Int32) (S : z_Stt) : Option (Int32 × z_Stt) :=
  some ((((((((a0 - (((a0.toUInt32 >>> (Int32.toUInt32 1 &&& Int32.toUInt32 31)).toInt32) &&& 1431655765)) &&& 858993459) + ((((a0 - (((a0.toUInt32 >>> (Int32.toUInt32 1 &&& Int32.toUInt32 31)).toInt32) &&& 1431655765)).toUInt32 >>> (Int32.toUInt32 2 &&& Int32.toUInt32 31)).toInt32) &&& 858993459)) + (((((a0 - (((a0.toUInt32 >>> (Int32.toUInt32 1 &&& Int32.toUInt32 31)).toInt32) &&& 1431655765)) &&& 858993459) + ((((a0 - (((a0.toUInt32 >>> (Int32.toUInt32 1 &&& Int32.toUInt32 31)).toInt32) &&& 1431655765)).toUInt32 >>> (Int32.toUInt32 2 &&& Int32.toUInt32 31)).toInt32) &&& 858993459)).toUInt32 >>> (Int32.toUInt32 4 &&& Int32.toUInt32 31)).toInt32)) &&& 252645135) + (((((((a0 - (((a0.toUInt32 >>> (Int32.toUInt32 1 &&& Int32.toUInt32 31)).toInt32) &&& 1431655765)) &&& 858993459) + ((((a0 - (((a0.toUInt32 >>> (Int32.toUInt32 1 &&& Int32.toUInt32 31)).toInt32) &&& 1431655765)).toUInt32 >>> (Int32.toUInt32 2 &&& Int32.toUInt32 31)).toInt32) &&& 858993459)) + (((((a0 - (((a0.toUInt32 >>> (Int32.toUInt32 1 &&& Int32.toUInt32 31)).toInt32) &&& 1431655765)) &&& 858993459) + ((((a0 - (((a0.toUInt32 >>> (Int32.toUInt32 1 &&& Int32.toUInt32 31)).toInt32) &&& 1431655765)).toUInt32 >>> (Int32.toUInt32 2 &&& Int32.toUInt32 31)).toInt32) &&& 858993459)).toUInt32 >>> (Int32.toUInt32 4 &&& Int32.toUInt32 31)).toInt32)) &&& 252645135).toUInt32 >>> (Int32.toUInt32 8 &&& Int32.toUInt32 31)).toInt32)) + ((((((((a0 - (((a0.toUInt32 >>> (Int32.toUInt32 1 &&& Int32.toUInt32 31)).toInt32) &&& 1431655765)) &&& 858993459) + ((((a0 - (((a0.toUInt32 >>> (Int32.toUInt32 1 &&& Int32.toUInt32 31)).toInt32) &&& 1431655765)).toUInt32 >>> (Int32.toUInt32 2 &&& Int32.toUInt32 31)).toInt32) &&& 858993459)) + (((((a0 - (((a0.toUInt32 >>> (Int32.toUInt32 1 &&& Int32.toUInt32 31)).toInt32) &&& 1431655765)) &&& 858993459) + ((((a0 - (((a0.toUInt32 >>> (Int32.toUInt32 1 &&& Int32.toUInt32 31)).toInt32) &&& 1431655765)).toUInt32 >>> (Int32.toUInt32 2 &&& Int32.toUInt32 31)).toInt32) &&& 858993459)).toUInt32 >>> (Int32.toUInt32 4 &&& Int32.toUInt32 31)).toInt32)) &&& 252645135) + (((((((a0 - (((a0.toUInt32 >>> (Int32.toUInt32 1 &&& Int32.toUInt32 31)).toInt32) &&& 1431655765)) &&& 858993459) + ((((a0 - (((a0.toUInt32 >>> (Int32.toUInt32 1 &&& Int32.toUInt32 31)).toInt32) &&& 1431655765)).toUInt32 >>> (Int32.toUInt32 2 &&& Int32.toUInt32 31)).toInt32) &&& 858993459)) + (((((a0 - (((a0.toUInt32 >>> (Int32.toUInt32 1 &&& Int32.toUInt32 31)).toInt32) &&& 1431655765)) &&& 858993459) + ((((a0 - (((a0.toUInt32 >>> (Int32.toUInt32 1 &&& Int32.toUInt32 31)).toInt32) &&& 1431655765)).toUInt32 >>> (Int32.toUInt32 2 &&& Int32.toUInt32 31)).toInt32) &&& 858993459)).toUInt32 >>> (Int32.toUInt32 4 &&& Int32.toUInt32 31)).toInt32)) &&& 252645135).toUInt32 >>> (Int32.toUInt32 8 &&& Int32.toUInt32 31)).toInt32)).toUInt32 >>> (Int32.toUInt32 16 &&& Int32.toUInt32 31)).toInt32)) &&& 63, S)
set_option maxHeartbeats 4000000 in
set_option maxRecDepth 100000 in
theorem t_J6_bitCount_0f7a4 {g : z_G} {K : z_K} {v : Int32} {S' : z_Stt} (cx : z_C g M_J6_bitCount_0f7a4 0 K) (ce : z_E' g M_J6_bitCount_0f7a4 (z_P g (some (.int v)) S') K) (a0 : Int32) (S : z_Stt) (h : f_J6_bitCount_0f7a4 a0 S = some (v, S')) : z_At g M_J6_bitCount_0f7a4 K 0 [some (.int a0)] [] (hp g S) := by
  unfold f_J6_bitCount_0f7a4 at h
  refine z_iload_n cx rfl rfl dJ6_bitCount_0f7a4_0 ?_
  refine z_iload_n cx rfl rfl dJ6_bitCount_0f7a4_1 ?_
  refine z_iconst (v := 1) cx (by decide +kernel) dJ6_bitCount_0f7a4_2 ?_
  refine z_iushr cx rfl dJ6_bitCount_0f7a4_3 ?_
  refine z_ldcw cx tb_589 dJ6_bitCount_0f7a4_4 ?_
  refine z_iand cx dJ6_bitCount_0f7a4_7 ?_
  refine z_isub cx dJ6_bitCount_0f7a4_8 ?_
  refine z_istore_n (L' := [some (.int (a0 - (((a0.toUInt32 >>> (Int32.toUInt32 1 &&& Int32.toUInt32 31)).toInt32) &&& 1431655765)))]) cx rfl (by decide) rfl dJ6_bitCount_0f7a4_9 ?_
  refine z_iload_n cx rfl rfl dJ6_bitCount_0f7a4_10 ?_
  refine z_ldcw cx tb_590 dJ6_bitCount_0f7a4_11 ?_
  refine z_iand cx dJ6_bitCount_0f7a4_14 ?_
  refine z_iload_n cx rfl rfl dJ6_bitCount_0f7a4_15 ?_
  refine z_iconst (v := 2) cx (by decide +kernel) dJ6_bitCount_0f7a4_16 ?_
  refine z_iushr cx rfl dJ6_bitCount_0f7a4_17 ?_
  refine z_ldcw cx tb_590 dJ6_bitCount_0f7a4_18 ?_
  refine z_iand cx dJ6_bitCount_0f7a4_21 ?_
  refine z_iadd cx dJ6_bitCount_0f7a4_22 ?_
  refine z_istore_n (L' := [some (.int (((a0 - (((a0.toUInt32 >>> (Int32.toUInt32 1 &&& Int32.toUInt32 31)).toInt32) &&& 1431655765)) &&& 858993459) + ((((a0 - (((a0.toUInt32 >>> (Int32.toUInt32 1 &&& Int32.toUInt32 31)).toInt32) &&& 1431655765)).toUInt32 >>> (Int32.toUInt32 2 &&& Int32.toUInt32 31)).toInt32) &&& 858993459)))]) cx rfl (by decide) rfl dJ6_bitCount_0f7a4_23 ?_
  refine z_iload_n cx rfl rfl dJ6_bitCount_0f7a4_24 ?_
  refine z_iload_n cx rfl rfl dJ6_bitCount_0f7a4_25 ?_
  refine z_iconst (v := 4) cx (by decide +kernel) dJ6_bitCount_0f7a4_26 ?_
  refine z_iushr cx rfl dJ6_bitCount_0f7a4_27 ?_
  refine z_iadd cx dJ6_bitCount_0f7a4_28 ?_
  refine z_ldcw cx tb_591 dJ6_bitCount_0f7a4_29 ?_
  refine z_iand cx dJ6_bitCount_0f7a4_32 ?_
  refine z_istore_n (L' := [some (.int (((((a0 - (((a0.toUInt32 >>> (Int32.toUInt32 1 &&& Int32.toUInt32 31)).toInt32) &&& 1431655765)) &&& 858993459) + ((((a0 - (((a0.toUInt32 >>> (Int32.toUInt32 1 &&& Int32.toUInt32 31)).toInt32) &&& 1431655765)).toUInt32 >>> (Int32.toUInt32 2 &&& Int32.toUInt32 31)).toInt32) &&& 858993459)) + (((((a0 - (((a0.toUInt32 >>> (Int32.toUInt32 1 &&& Int32.toUInt32 31)).toInt32) &&& 1431655765)) &&& 858993459) + ((((a0 - (((a0.toUInt32 >>> (Int32.toUInt32 1 &&& Int32.toUInt32 31)).toInt32) &&& 1431655765)).toUInt32 >>> (Int32.toUInt32 2 &&& Int32.toUInt32 31)).toInt32) &&& 858993459)).toUInt32 >>> (Int32.toUInt32 4 &&& Int32.toUInt32 31)).toInt32)) &&& 252645135))]) cx rfl (by decide) rfl dJ6_bitCount_0f7a4_33 ?_
  refine z_iload_n cx rfl rfl dJ6_bitCount_0f7a4_34 ?_
  refine z_iload_n cx rfl rfl dJ6_bitCount_0f7a4_35 ?_
  refine z_bipush (v := 8) cx (by decide +kernel) dJ6_bitCount_0f7a4_36 ?_
  refine z_iushr cx rfl dJ6_bitCount_0f7a4_38 ?_
  refine z_iadd cx dJ6_bitCount_0f7a4_39 ?_
  refine z_istore_n (L' := [some (.int ((((((a0 - (((a0.toUInt32 >>> (Int32.toUInt32 1 &&& Int32.toUInt32 31)).toInt32) &&& 1431655765)) &&& 858993459) + ((((a0 - (((a0.toUInt32 >>> (Int32.toUInt32 1 &&& Int32.toUInt32 31)).toInt32) &&& 1431655765)).toUInt32 >>> (Int32.toUInt32 2 &&& Int32.toUInt32 31)).toInt32) &&& 858993459)) + (((((a0 - (((a0.toUInt32 >>> (Int32.toUInt32 1 &&& Int32.toUInt32 31)).toInt32) &&& 1431655765)) &&& 858993459) + ((((a0 - (((a0.toUInt32 >>> (Int32.toUInt32 1 &&& Int32.toUInt32 31)).toInt32) &&& 1431655765)).toUInt32 >>> (Int32.toUInt32 2 &&& Int32.toUInt32 31)).toInt32) &&& 858993459)).toUInt32 >>> (Int32.toUInt32 4 &&& Int32.toUInt32 31)).toInt32)) &&& 252645135) + (((((((a0 - (((a0.toUInt32 >>> (Int32.toUInt32 1 &&& Int32.toUInt32 31)).toInt32) &&& 1431655765)) &&& 858993459) + ((((a0 - (((a0.toUInt32 >>> (Int32.toUInt32 1 &&& Int32.toUInt32 31)).toInt32) &&& 1431655765)).toUInt32 >>> (Int32.toUInt32 2 &&& Int32.toUInt32 31)).toInt32) &&& 858993459)) + (((((a0 - (((a0.toUInt32 >>> (Int32.toUInt32 1 &&& Int32.toUInt32 31)).toInt32) &&& 1431655765)) &&& 858993459) + ((((a0 - (((a0.toUInt32 >>> (Int32.toUInt32 1 &&& Int32.toUInt32 31)).toInt32) &&& 1431655765)).toUInt32 >>> (Int32.toUInt32 2 &&& Int32.toUInt32 31)).toInt32) &&& 858993459)).toUInt32 >>> (Int32.toUInt32 4 &&& Int32.toUInt32 31)).toInt32)) &&& 252645135).toUInt32 >>> (Int32.toUInt32 8 &&& Int32.toUInt32 31)).toInt32)))]) cx rfl (by decide) rfl dJ6_bitCount_0f7a4_40 ?_
  refine z_iload_n cx rfl rfl dJ6_bitCount_0f7a4_41 ?_
  refine z_iload_n cx rfl rfl dJ6_bitCount_0f7a4_42 ?_
  refine z_bipush (v := 16) cx (by decide +kernel) dJ6_bitCount_0f7a4_43 ?_
  refine z_iushr cx rfl dJ6_bitCount_0f7a4_45 ?_
  refine z_iadd cx dJ6_bitCount_0f7a4_46 ?_
  refine z_istore_n (L' := [some (.int (((((((a0 - (((a0.toUInt32 >>> (Int32.toUInt32 1 &&& Int32.toUInt32 31)).toInt32) &&& 1431655765)) &&& 858993459) + ((((a0 - (((a0.toUInt32 >>> (Int32.toUInt32 1 &&& Int32.toUInt32 31)).toInt32) &&& 1431655765)).toUInt32 >>> (Int32.toUInt32 2 &&& Int32.toUInt32 31)).toInt32) &&& 858993459)) + (((((a0 - (((a0.toUInt32 >>> (Int32.toUInt32 1 &&& Int32.toUInt32 31)).toInt32) &&& 1431655765)) &&& 858993459) + ((((a0 - (((a0.toUInt32 >>> (Int32.toUInt32 1 &&& Int32.toUInt32 31)).toInt32) &&& 1431655765)).toUInt32 >>> (Int32.toUInt32 2 &&& Int32.toUInt32 31)).toInt32) &&& 858993459)).toUInt32 >>> (Int32.toUInt32 4 &&& Int32.toUInt32 31)).toInt32)) &&& 252645135) + (((((((a0 - (((a0.toUInt32 >>> (Int32.toUInt32 1 &&& Int32.toUInt32 31)).toInt32) &&& 1431655765)) &&& 858993459) + ((((a0 - (((a0.toUInt32 >>> (Int32.toUInt32 1 &&& Int32.toUInt32 31)).toInt32) &&& 1431655765)).toUInt32 >>> (Int32.toUInt32 2 &&& Int32.toUInt32 31)).toInt32) &&& 858993459)) + (((((a0 - (((a0.toUInt32 >>> (Int32.toUInt32 1 &&& Int32.toUInt32 31)).toInt32) &&& 1431655765)) &&& 858993459) + ((((a0 - (((a0.toUInt32 >>> (Int32.toUInt32 1 &&& Int32.toUInt32 31)).toInt32) &&& 1431655765)).toUInt32 >>> (Int32.toUInt32 2 &&& Int32.toUInt32 31)).toInt32) &&& 858993459)).toUInt32 >>> (Int32.toUInt32 4 &&& Int32.toUInt32 31)).toInt32)) &&& 252645135).toUInt32 >>> (Int32.toUInt32 8 &&& Int32.toUInt32 31)).toInt32)) + ((((((((a0 - (((a0.toUInt32 >>> (Int32.toUInt32 1 &&& Int32.toUInt32 31)).toInt32) &&& 1431655765)) &&& 858993459) + ((((a0 - (((a0.toUInt32 >>> (Int32.toUInt32 1 &&& Int32.toUInt32 31)).toInt32) &&& 1431655765)).toUInt32 >>> (Int32.toUInt32 2 &&& Int32.toUInt32 31)).toInt32) &&& 858993459)) + (((((a0 - (((a0.toUInt32 >>> (Int32.toUInt32 1 &&& Int32.toUInt32 31)).toInt32) &&& 1431655765)) &&& 858993459) + ((((a0 - (((a0.toUInt32 >>> (Int32.toUInt32 1 &&& Int32.toUInt32 31)).toInt32) &&& 1431655765)).toUInt32 >>> (Int32.toUInt32 2 &&& Int32.toUInt32 31)).toInt32) &&& 858993459)).toUInt32 >>> (Int32.toUInt32 4 &&& Int32.toUInt32 31)).toInt32)) &&& 252645135) + (((((((a0 - (((a0.toUInt32 >>> (Int32.toUInt32 1 &&& Int32.toUInt32 31)).toInt32) &&& 1431655765)) &&& 858993459) + ((((a0 - (((a0.toUInt32 >>> (Int32.toUInt32 1 &&& Int32.toUInt32 31)).toInt32) &&& 1431655765)).toUInt32 >>> (Int32.toUInt32 2 &&& Int32.toUInt32 31)).toInt32) &&& 858993459)) + (((((a0 - (((a0.toUInt32 >>> (Int32.toUInt32 1 &&& Int32.toUInt32 31)).toInt32) &&& 1431655765)) &&& 858993459) + ((((a0 - (((a0.toUInt32 >>> (Int32.toUInt32 1 &&& Int32.toUInt32 31)).toInt32) &&& 1431655765)).toUInt32 >>> (Int32.toUInt32 2 &&& Int32.toUInt32 31)).toInt32) &&& 858993459)).toUInt32 >>> (Int32.toUInt32 4 &&& Int32.toUInt32 31)).toInt32)) &&& 252645135).toUInt32 >>> (Int32.toUInt32 8 &&& Int32.toUInt32 31)).toInt32)).toUInt32 >>> (Int32.toUInt32 16 &&& Int32.toUInt32 31)).toInt32)))]) cx rfl (by decide) rfl dJ6_bitCount_0f7a4_47 ?_
  refine z_iload_n cx rfl rfl dJ6_bitCount_0f7a4_48 ?_
  refine z_bipush (v := 63) cx (by decide +kernel) dJ6_bitCount_0f7a4_49 ?_
  refine z_iand cx dJ6_bitCount_0f7a4_51 ?_
  obtain ⟨rfl, rfl⟩ := g_some h
  exact z_ireturn cx ce rfl ⟨rfl, rfl⟩ dJ6_bitCount_0f7a4_52
theorem c_J6_bitCount_0f7a4 {g : z_G} (a0 : Int32) (S : z_Stt) {v : Int32} {S' : z_Stt} (h : f_J6_bitCount_0f7a4 a0 S = some (v, S')) : z_Ct g M_J6_bitCount_0f7a4 0 [.int a0] (hp g S) (z_P g (some (.int v)) S') :=
  z_Ct.of (by decide +kernel) rfl (Nat.le_of_ble_eq_true rfl) (fun K cx ce => q_weak (L' := [some (.int a0)]) (z_wk_s (z_wk_0)) (t_J6_bitCount_0f7a4 cx ce a0 S h))
