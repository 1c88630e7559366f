abbrev M_X0_dropOldest : z_M := (RX0, yX0_dropOldest, cX0_dropOldest, 2, none)
theorem mo_X0_dropOldest : z_mo M_X0_dropOldest 0 := ⟨tb_260, tb_19, rfl, ⟨by decide +kernel, by decide +kernel⟩, by decide +kernel, by decide⟩
theorem mv_X0_dropOldest : z_mv M_X0_dropOldest := ⟨tb_258, tb_259⟩
def f_X0_dropOldest_2 (n : Nat) : Nat → Int32 → z_Stt → Option (Unit × z_Stt)
  | 0, _, _ => none
  | m + 1, x1, S =>
    if 40 ≤ x1 then
      g_let (sI S 304 39) fun S2 =>
      some ((), S2)
    else
      if ¬ (x1 < 0 ∨ 40 ≤ x1.toNatClampNeg) then
        if ¬ (x1 - 1 < 0 ∨ 40 ≤ (x1 - 1).toNatClampNeg) then
          g_let (sA S 4 (upd (S.2.2.1 4) (x1 - 1).toNatClampNeg (S.2.2.1 4 x1.toNatClampNeg))) fun S6 =>
          if ¬ (x1 < 0 ∨ 40 ≤ x1.toNatClampNeg) then
            if ¬ (x1 - 1 < 0 ∨ 40 ≤ (x1 - 1).toNatClampNeg) then
              g_let (sA S6 5 (upd (S6.2.2.1 5) (x1 - 1).toNatClampNeg (S6.2.2.1 5 x1.toNatClampNeg))) fun S10 =>
              if ¬ (x1 < 0 ∨ 40 ≤ x1.toNatClampNeg) then
                if ¬ (x1 - 1 < 0 ∨ 40 ≤ (x1 - 1).toNatClampNeg) then
                  g_let (sA S10 6 (upd (S10.2.2.1 6) (x1 - 1).toNatClampNeg (S10.2.2.1 6 x1.toNatClampNeg))) fun S14 =>
                  f_X0_dropOldest_2 n m (x1 + 1) S14
                else none
              else none
            else none
          else none
        else none
      else none
set_option maxHeartbeats 4000000 in
set_option maxRecDepth 100000 in
theorem t_X0_dropOldest_2 {g : z_G} {K : z_K} (n : Nat) {v : Unit} {S' : z_Stt} (cx : z_C g M_X0_dropOldest 0 K) (ce : z_E' g M_X0_dropOldest (z_P g (none) S') K) : ∀ (m : Nat) (x1 : Int32) (S : z_Stt) (h : f_X0_dropOldest_2 n m x1 S = some (v, S')), z_At g M_X0_dropOldest K 2 [some (.ref (z_ad g 3)), some (.int x1)] [] (hp g S) := by
  intro m
  induction m with
  | zero => intro x1 S h; simp [f_X0_dropOldest_2] at h
  | succ m ih =>
    intro x1 S h
    rw [f_X0_dropOldest_2] at h
    refine z_iload_n cx rfl rfl dX0_dropOldest_2 ?_
    refine z_bipush (v := 40) cx (by decide +kernel) dX0_dropOldest_3 ?_
    refine z_icmp_ge (tgt := 56) cx (by decide) dX0_dropOldest_5 (fun c1 => ?_) (fun c1 => ?_)
    · have h := g_t c1 h
      refine z_aload_n cx rfl rfl dX0_dropOldest_56 ?_
      refine z_bipush (v := 39) cx (by decide +kernel) dX0_dropOldest_57 ?_
      refine q_putI (k := 3) (n := 304) cx z_cl0 (j := 4) (by decide) tb_69 rfl rfl rfl (by decide) rfl rfl rfl (by decide) (by decide) dX0_dropOldest_59 ?_
      obtain ⟨S2, e3, h⟩ := g_let_ex h
      rw [← e3]
      obtain ⟨rfl, rfl⟩ := g_some h
      exact z_return cx ce rfl ⟨rfl, rfl⟩ dX0_dropOldest_62
    · have h := g_f c1 h
      refine z_aload_n cx rfl rfl dX0_dropOldest_8 ?_
      refine q_getF (k := 3) (n := 4) (r := 1) cx z_cl0 (j := 0) (by decide) tb_65 rfl (by decide) rfl rfl rfl dX0_dropOldest_9 ?_
      refine z_iload_n cx rfl rfl dX0_dropOldest_12 ?_
      refine z_iconst (v := 1) cx (by decide +kernel) dX0_dropOldest_13 ?_
      refine z_isub cx dX0_dropOldest_14 ?_
      refine z_aload_n cx rfl rfl dX0_dropOldest_15 ?_
      refine q_getF (k := 3) (n := 4) (r := 1) cx z_cl0 (j := 0) (by decide) tb_65 rfl (by decide) rfl rfl rfl dX0_dropOldest_16 ?_
      refine z_iload_n cx rfl rfl dX0_dropOldest_19 ?_
      obtain ⟨c4, h⟩ := g_if h
      refine q_iald cx (by decide) rfl c4 dX0_dropOldest_20 ?_
      obtain ⟨c5, h⟩ := g_if h
      refine q_iast cx (by decide) rfl c5 dX0_dropOldest_21 ?_
      obtain ⟨S6, e7, h⟩ := g_let_ex h
      rw [← e7]
      refine z_aload_n cx rfl rfl dX0_dropOldest_22 ?_
      refine q_getF (k := 3) (n := 5) (r := 2) cx z_cl0 (j := 1) (by decide) tb_66 rfl (by decide) rfl rfl rfl dX0_dropOldest_23 ?_
      refine z_iload_n cx rfl rfl dX0_dropOldest_26 ?_
      refine z_iconst (v := 1) cx (by decide +kernel) dX0_dropOldest_27 ?_
      refine z_isub cx dX0_dropOldest_28 ?_
      refine z_aload_n cx rfl rfl dX0_dropOldest_29 ?_
      refine q_getF (k := 3) (n := 5) (r := 2) cx z_cl0 (j := 1) (by decide) tb_66 rfl (by decide) rfl rfl rfl dX0_dropOldest_30 ?_
      refine z_iload_n cx rfl rfl dX0_dropOldest_33 ?_
      obtain ⟨c8, h⟩ := g_if h
      refine q_iald cx (by decide) rfl c8 dX0_dropOldest_34 ?_
      obtain ⟨c9, h⟩ := g_if h
      refine q_iast cx (by decide) rfl c9 dX0_dropOldest_35 ?_
      obtain ⟨S10, e11, h⟩ := g_let_ex h
      rw [← e11]
      refine z_aload_n cx rfl rfl dX0_dropOldest_36 ?_
      refine q_getF (k := 3) (n := 6) (r := 3) cx z_cl0 (j := 2) (by decide) tb_67 rfl (by decide) rfl rfl rfl dX0_dropOldest_37 ?_
      refine z_iload_n cx rfl rfl dX0_dropOldest_40 ?_
      refine z_iconst (v := 1) cx (by decide +kernel) dX0_dropOldest_41 ?_
      refine z_isub cx dX0_dropOldest_42 ?_
      refine z_aload_n cx rfl rfl dX0_dropOldest_43 ?_
      refine q_getF (k := 3) (n := 6) (r := 3) cx z_cl0 (j := 2) (by decide) tb_67 rfl (by decide) rfl rfl rfl dX0_dropOldest_44 ?_
      refine z_iload_n cx rfl rfl dX0_dropOldest_47 ?_
      obtain ⟨c12, h⟩ := g_if h
      refine q_iald cx (by decide) rfl c12 dX0_dropOldest_48 ?_
      obtain ⟨c13, h⟩ := g_if h
      refine q_iast cx (by decide) rfl c13 dX0_dropOldest_49 ?_
      obtain ⟨S14, e15, h⟩ := g_let_ex h
      rw [← e15]
      refine z_iinc (c := 1) (L' := [some (.ref (z_ad g 3)), some (.int (x1 + 1))]) cx rfl (by decide +kernel) (by decide) rfl dX0_dropOldest_50 ?_
      refine z_goto (tgt := 2) cx (by decide) dX0_dropOldest_53 ?_
      exact q_weak (z_wk_s (z_wk_s (z_wk_0))) (ih (x1 + 1) S14 h)
def f_X0_dropOldest (n : Nat) (S : z_Stt) : Option (Unit × z_Stt) :=
  f_X0_dropOldest_2 n n 1 S
set_option maxHeartbeats 4000000 in
set_option maxRecDepth 100000 in
theorem t_X0_dropOldest {g : z_G} {K : z_K} (n : Nat) {v : Unit} {S' : z_Stt} (cx : z_C g M_X0_dropOldest 0 K) (ce : z_E' g M_X0_dropOldest (z_P g (none) S') K) (S : z_Stt) (h : f_X0_dropOldest n S = some (v, S')) : z_At g M_X0_dropOldest K 0 [some (.ref (z_ad g 3)), none] [] (hp g S) := by
  unfold f_X0_dropOldest at h
  refine z_iconst (v := 1) cx (by decide +kernel) dX0_dropOldest_0 ?_
  refine z_istore_n (L' := [some (.ref (z_ad g 3)), some (.int 1)]) cx rfl (by decide) rfl dX0_dropOldest_1 ?_
  exact q_weak (z_wk_s (z_wk_s (z_wk_0))) (t_X0_dropOldest_2 n cx ce n 1 S h)
theorem c_X0_dropOldest {g : z_G} {n : Nat} (S : z_Stt) {v : Unit} {S' : z_Stt} (h : f_X0_dropOldest n S = some (v, S')) : z_Ct g M_X0_dropOldest 0 [.ref (z_ad g 3)] (hp g S) (z_P g (none) S') :=
  z_Ct.of (by decide +kernel) rfl (Nat.le_of_ble_eq_true rfl) (fun K cx ce => q_weak (L' := [some (.ref (z_ad g 3)), none]) (z_wk_s (z_wk_e (z_wk_0))) (t_X0_dropOldest n cx ce S h))
abbrev M_X0_add : z_M := (RX0, yX0_add, cX0_add, 4, none)
theorem mo_X0_add : z_mo M_X0_add 3 := ⟨tb_256, tb_19, rfl, ⟨by decide +kernel, by decide +kernel⟩, by decide +kernel, by decide⟩
theorem mv_X0_add : z_mv M_X0_add := ⟨tb_254, tb_255⟩
def f_X0_add_13 (n : Nat) (x1 : Int32) (x2 : Int32) (x3 : Int32) (S : z_Stt) : Option (Unit × z_Stt) :=
  if ¬ (S.1 304 < 0 ∨ 40 ≤ (S.1 304).toNatClampNeg) then
    g_let (sA S 4 (upd (S.2.2.1 4) (S.1 304).toNatClampNeg x1)) fun S2 =>
    if ¬ (S2.1 304 < 0 ∨ 40 ≤ (S2.1 304).toNatClampNeg) then
      g_let (sA S2 5 (upd (S2.2.2.1 5) (S2.1 304).toNatClampNeg x2)) fun S5 =>
      if ¬ (S5.1 304 < 0 ∨ 40 ≤ (S5.1 304).toNatClampNeg) then
        g_let (sA S5 6 (upd (S5.2.2.1 6) (S5.1 304).toNatClampNeg x3)) fun S8 =>
        g_let (sI S8 304 ((S8.1 304) + 1)) fun S10 =>
        g_let (sI S10 303 (S10.1 304)) fun S12 =>
        some ((), S12)
      else none
    else none
  else none
set_option maxHeartbeats 4000000 in
set_option maxRecDepth 100000 in
theorem t_X0_add_13 {g : z_G} {K : z_K} (n : Nat) {v : Unit} {S' : z_Stt} (cx : z_C g M_X0_add 1 K) (ce : z_E' g M_X0_add (z_P g (none) S') K) (x1 : Int32) (x2 : Int32) (x3 : Int32) (S : z_Stt) (h : f_X0_add_13 n x1 x2 x3 S = some (v, S')) : z_At g M_X0_add K 13 [some (.ref (z_ad g 3)), some (.int x1), some (.int x2), some (.int x3)] [] (hp g S) := by
  unfold f_X0_add_13 at h
  refine z_aload_n cx rfl rfl dX0_add_13 ?_
  refine q_getF (k := 3) (n := 4) (r := 1) cx z_cl0 (j := 0) (by decide) tb_65 rfl (by decide) rfl rfl rfl dX0_add_14 ?_
  refine z_aload_n cx rfl rfl dX0_add_17 ?_
  refine q_getI (k := 3) (n := 304) cx z_cl0 (j := 4) (by decide) tb_69 rfl (by decide) rfl rfl rfl dX0_add_18 ?_
  refine z_iload_n cx rfl rfl dX0_add_21 ?_
  obtain ⟨c1, h⟩ := g_if h
  refine q_iast cx (by decide) rfl c1 dX0_add_22 ?_
  obtain ⟨S2, e3, h⟩ := g_let_ex h
  rw [← e3]
  refine z_aload_n cx rfl rfl dX0_add_23 ?_
  refine q_getF (k := 3) (n := 5) (r := 2) cx z_cl0 (j := 1) (by decide) tb_66 rfl (by decide) rfl rfl rfl dX0_add_24 ?_
  refine z_aload_n cx rfl rfl dX0_add_27 ?_
  refine q_getI (k := 3) (n := 304) cx z_cl0 (j := 4) (by decide) tb_69 rfl (by decide) rfl rfl rfl dX0_add_28 ?_
  refine z_iload_n cx rfl rfl dX0_add_31 ?_
  obtain ⟨c4, h⟩ := g_if h
  refine q_iast cx (by decide) rfl c4 dX0_add_32 ?_
  obtain ⟨S5, e6, h⟩ := g_let_ex h
  rw [← e6]
  refine z_aload_n cx rfl rfl dX0_add_33 ?_
  refine q_getF (k := 3) (n := 6) (r := 3) cx z_cl0 (j := 2) (by decide) tb_67 rfl (by decide) rfl rfl rfl dX0_add_34 ?_
  refine z_aload_n cx rfl rfl dX0_add_37 ?_
  refine q_getI (k := 3) (n := 304) cx z_cl0 (j := 4) (by decide) tb_69 rfl (by decide) rfl rfl rfl dX0_add_38 ?_
  refine z_iload_n cx rfl rfl dX0_add_41 ?_
  obtain ⟨c7, h⟩ := g_if h
  refine q_iast cx (by decide) rfl c7 dX0_add_42 ?_
  obtain ⟨S8, e9, h⟩ := g_let_ex h
  rw [← e9]
  refine z_aload_n cx rfl rfl dX0_add_43 ?_
  refine z_dup cx rfl dX0_add_44 ?_
  refine q_getI (k := 3) (n := 304) cx z_cl0 (j := 4) (by decide) tb_69 rfl (by decide) rfl rfl rfl dX0_add_45 ?_
  refine z_iconst (v := 1) cx (by decide +kernel) dX0_add_48 ?_
  refine z_iadd cx dX0_add_49 ?_
  refine q_putI (k := 3) (n := 304) cx z_cl0 (j := 4) (by decide) tb_69 rfl rfl rfl (by decide) rfl rfl rfl (by decide) (by decide) dX0_add_50 ?_
  obtain ⟨S10, e11, h⟩ := g_let_ex h
  rw [← e11]
  refine z_aload_n cx rfl rfl dX0_add_53 ?_
  refine z_aload_n cx rfl rfl dX0_add_54 ?_
  refine q_getI (k := 3) (n := 304) cx z_cl0 (j := 4) (by decide) tb_69 rfl (by decide) rfl rfl rfl dX0_add_55 ?_
  refine q_putI (k := 3) (n := 303) cx z_cl0 (j := 3) (by decide) tb_68 rfl rfl rfl (by decide) rfl rfl rfl (by decide) (by decide) dX0_add_58 ?_
  obtain ⟨S12, e13, h⟩ := g_let_ex h
  rw [← e13]
  obtain ⟨rfl, rfl⟩ := g_some h
  exact z_return cx ce rfl ⟨rfl, rfl⟩ dX0_add_61
def f_X0_add (n : Nat) (a0 : Int32) (a1 : Int32) (a2 : Int32) (S : z_Stt) : Option (Unit × z_Stt) :=
  if S.1 304 < 40 then
    f_X0_add_13 n a0 a1 a2 S
  else
    g_bd (f_X0_dropOldest n S) fun v2 S3 =>
    f_X0_add_13 n a0 a1 a2 S3
set_option maxHeartbeats 4000000 in
set_option maxRecDepth 100000 in
theorem t_X0_add {g : z_G} {K : z_K} (n : Nat) {v : Unit} {S' : z_Stt} (cx : z_C g M_X0_add 1 K) (ce : z_E' g M_X0_add (z_P g (none) S') K) (a0 : Int32) (a1 : Int32) (a2 : Int32) (S : z_Stt) (h : f_X0_add n a0 a1 a2 S = some (v, S')) : z_At g M_X0_add K 0 [some (.ref (z_ad g 3)), some (.int a0), some (.int a1), some (.int a2)] [] (hp g S) := by
  unfold f_X0_add at h
  refine z_aload_n cx rfl rfl dX0_add_0 ?_
  refine q_getI (k := 3) (n := 304) cx z_cl0 (j := 4) (by decide) tb_69 rfl (by decide) rfl rfl rfl dX0_add_1 ?_
  refine z_bipush (v := 40) cx (by decide +kernel) dX0_add_4 ?_
  refine z_icmp_lt (tgt := 13) cx (by decide) dX0_add_6 (fun c1 => ?_) (fun c1 => ?_)
  · have h := g_t c1 h
    exact q_weak (z_wk_s (z_wk_s (z_wk_s (z_wk_s (z_wk_0))))) (t_X0_add_13 n cx ce a0 a1 a2 S h)
  · have h := g_f c1 h
    refine z_aload_n cx rfl rfl dX0_add_9 ?_
    obtain ⟨v2, S3, e4, h⟩ := g_bd_ex h
    refine q_cvv (As := []) cx mo_X0_dropOldest mv_X0_dropOldest z_cl0 rfl tb_257 (by decide) rfl (by decide) rfl rfl (Nat.le_of_ble_eq_true rfl) dX0_add_10 (c_X0_dropOldest  _ e4) ?_
    exact q_weak (z_wk_s (z_wk_s (z_wk_s (z_wk_s (z_wk_0))))) (t_X0_add_13 n cx ce a0 a1 a2 S3 h)
theorem c_X0_add {g : z_G} {n : Nat} (a0 : Int32) (a1 : Int32) (a2 : Int32) (S : z_Stt) {v : Unit} {S' : z_Stt} (h : f_X0_add n a0 a1 a2 S = some (v, S')) : z_Ct g M_X0_add 1 [.ref (z_ad g 3), .int a0, .int a1, .int a2] (hp g S) (z_P g (none) S') :=
  z_Ct.of (by decide +kernel) rfl (Nat.le_of_ble_eq_true rfl) (fun K cx ce => q_weak (L' := [some (.ref (z_ad g 3)), some (.int a0), some (.int a1), some (.int a2)]) (z_wk_s (z_wk_s (z_wk_s (z_wk_s (z_wk_0))))) (t_X0_add n cx ce a0 a1 a2 S h))
abbrev M_X0_takeBack : z_M := (RX0, yX0_takeBack, cX0_takeBack, 2, none)
theorem mo_X0_takeBack : z_mo M_X0_takeBack 1 := ⟨tb_1031, tb_19, rfl, ⟨by decide +kernel, by decide +kernel⟩, by decide +kernel, by decide⟩
theorem mv_X0_takeBack : z_mv M_X0_takeBack := ⟨tb_1029, tb_1030⟩
def f_X0_takeBack (S : z_Stt) : Option (Unit × z_Stt) :=
  if S.1 304 ≤ 0 then
    some ((), S)
  else
    g_let (sI S 304 ((S.1 304) - 1)) fun S2 =>
    if ¬ (S2.1 304 < 0 ∨ 40 ≤ (S2.1 304).toNatClampNeg) then
      if ¬ (S2.1 304 < 0 ∨ 40 ≤ (S2.1 304).toNatClampNeg) then
        g_bd (f_X9_become (S2.2.2.1 4 (S2.1 304).toNatClampNeg) (S2.2.2.1 5 (S2.1 304).toNatClampNeg) S2) fun v6 S7 =>
        some ((), S7)
      else none
    else none
set_option maxHeartbeats 4000000 in
set_option maxRecDepth 100000 in
theorem t_X0_takeBack {g : z_G} {K : z_K} {v : Unit} {S' : z_Stt} (cx : z_C g M_X0_takeBack 1 K) (ce : z_E' g M_X0_takeBack (z_P g (none) S') K) (S : z_Stt) (h : f_X0_takeBack S = some (v, S')) : z_At g M_X0_takeBack K 0 [some (.ref (z_ad g 3)), some (.ref (z_ad g 1))] [] (hp g S) := by
  unfold f_X0_takeBack at h
  refine z_aload_n cx rfl rfl dX0_takeBack_0 ?_
  refine q_getI (k := 3) (n := 304) cx z_cl0 (j := 4) (by decide) tb_69 rfl (by decide) rfl rfl rfl dX0_takeBack_1 ?_
  refine z_if_le (tgt := 39) cx (by decide) dX0_takeBack_4 (fun c1 => ?_) (fun c1 => ?_)
  · have h := g_t c1 h
    obtain ⟨rfl, rfl⟩ := g_some h
    exact z_return cx ce rfl ⟨rfl, rfl⟩ dX0_takeBack_39
  · have h := g_f c1 h
    refine z_aload_n cx rfl rfl dX0_takeBack_7 ?_
    refine z_dup cx rfl dX0_takeBack_8 ?_
    refine q_getI (k := 3) (n := 304) cx z_cl0 (j := 4) (by decide) tb_69 rfl (by decide) rfl rfl rfl dX0_takeBack_9 ?_
    refine z_iconst (v := 1) cx (by decide +kernel) dX0_takeBack_12 ?_
    refine z_isub cx dX0_takeBack_13 ?_
    refine q_putI (k := 3) (n := 304) cx z_cl0 (j := 4) (by decide) tb_69 rfl rfl rfl (by decide) rfl rfl rfl (by decide) (by decide) dX0_takeBack_14 ?_
    obtain ⟨S2, e3, h⟩ := g_let_ex h
    rw [← e3]
    refine z_aload_n cx rfl rfl dX0_takeBack_17 ?_
    refine z_aload_n cx rfl rfl dX0_takeBack_18 ?_
    refine q_getF (k := 3) (n := 4) (r := 1) cx z_cl0 (j := 0) (by decide) tb_65 rfl (by decide) rfl rfl rfl dX0_takeBack_19 ?_
    refine z_aload_n cx rfl rfl dX0_takeBack_22 ?_
    refine q_getI (k := 3) (n := 304) cx z_cl0 (j := 4) (by decide) tb_69 rfl (by decide) rfl rfl rfl dX0_takeBack_23 ?_
    obtain ⟨c4, h⟩ := g_if h
    refine q_iald cx (by decide) rfl c4 dX0_takeBack_26 ?_
    refine z_aload_n cx rfl rfl dX0_takeBack_27 ?_
    refine q_getF (k := 3) (n := 5) (r := 2) cx z_cl0 (j := 1) (by decide) tb_66 rfl (by decide) rfl rfl rfl dX0_takeBack_28 ?_
    refine z_aload_n cx rfl rfl dX0_takeBack_31 ?_
    refine q_getI (k := 3) (n := 304) cx z_cl0 (j := 4) (by decide) tb_69 rfl (by decide) rfl rfl rfl dX0_takeBack_32 ?_
    obtain ⟨c5, h⟩ := g_if h
    refine q_iald cx (by decide) rfl c5 dX0_takeBack_35 ?_
    obtain ⟨v6, S7, e8, h⟩ := g_bd_ex h
    refine q_cvv (As := [.int (S2.2.2.1 4 (S2.1 304).toNatClampNeg), .int (S2.2.2.1 5 (S2.1 304).toNatClampNeg)]) cx mo_X9_become mv_X9_become z_cl9 rfl tb_1032 (by decide) rfl (by decide) rfl rfl (Nat.le_of_ble_eq_true rfl) dX0_takeBack_36 (c_X9_become (S2.2.2.1 4 (S2.1 304).toNatClampNeg) (S2.2.2.1 5 (S2.1 304).toNatClampNeg) _ e8) ?_
    obtain ⟨rfl, rfl⟩ := g_some h
    exact z_return cx ce rfl ⟨rfl, rfl⟩ dX0_takeBack_39
theorem c_X0_takeBack {g : z_G} (S : z_Stt) {v : Unit} {S' : z_Stt} (h : f_X0_takeBack S = some (v, S')) : z_Ct g M_X0_takeBack 1 [.ref (z_ad g 3), .ref (z_ad g 1)] (hp g S) (z_P g (none) S') :=
  z_Ct.of (by decide +kernel) rfl (Nat.le_of_ble_eq_true rfl) (fun K cx ce => q_weak (L' := [some (.ref (z_ad g 3)), some (.ref (z_ad g 1))]) (z_wk_s (z_wk_s (z_wk_0))) (t_X0_takeBack cx ce S h))
abbrev M_X0_doAgain : z_M := (RX0, yX0_doAgain, cX0_doAgain, 2, none)
theorem mo_X0_doAgain : z_mo M_X0_doAgain 1 := ⟨tb_1045, tb_19, rfl, ⟨by decide +kernel, by decide +kernel⟩, by decide +kernel, by decide⟩
theorem mv_X0_doAgain : z_mv M_X0_doAgain := ⟨tb_1043, tb_1044⟩
def f_X0_doAgain (S : z_Stt) : Option (Unit × z_Stt) :=
  if S.1 303 ≤ S.1 304 then
    some ((), S)
  else
    if ¬ (S.1 304 < 0 ∨ 40 ≤ (S.1 304).toNatClampNeg) then
      if ¬ (S.1 304 < 0 ∨ 40 ≤ (S.1 304).toNatClampNeg) then
        g_bd (f_X9_become (S.2.2.1 4 (S.1 304).toNatClampNeg) (S.2.2.1 6 (S.1 304).toNatClampNeg) S) fun v4 S5 =>
        g_let (sI S5 304 ((S5.1 304) + 1)) fun S7 =>
        some ((), S7)
      else none
    else none
set_option maxHeartbeats 4000000 in
set_option maxRecDepth 100000 in
theorem t_X0_doAgain {g : z_G} {K : z_K} {v : Unit} {S' : z_Stt} (cx : z_C g M_X0_doAgain 1 K) (ce : z_E' g M_X0_doAgain (z_P g (none) S') K) (S : z_Stt) (h : f_X0_doAgain S = some (v, S')) : z_At g M_X0_doAgain K 0 [some (.ref (z_ad g 3)), some (.ref (z_ad g 1))] [] (hp g S) := by
  unfold f_X0_doAgain at h
  refine z_aload_n cx rfl rfl dX0_doAgain_0 ?_
  refine q_getI (k := 3) (n := 304) cx z_cl0 (j := 4) (by decide) tb_69 rfl (by decide) rfl rfl rfl dX0_doAgain_1 ?_
  refine z_aload_n cx rfl rfl dX0_doAgain_4 ?_
  refine q_getI (k := 3) (n := 303) cx z_cl0 (j := 3) (by decide) tb_68 rfl (by decide) rfl rfl rfl dX0_doAgain_5 ?_
  refine z_icmp_ge (tgt := 43) cx (by decide) dX0_doAgain_8 (fun c1 => ?_) (fun c1 => ?_)
  · have h := g_t c1 h
    obtain ⟨rfl, rfl⟩ := g_some h
    exact z_return cx ce rfl ⟨rfl, rfl⟩ dX0_doAgain_43
  · have h := g_f c1 h
    refine z_aload_n cx rfl rfl dX0_doAgain_11 ?_
    refine z_aload_n cx rfl rfl dX0_doAgain_12 ?_
    refine q_getF (k := 3) (n := 4) (r := 1) cx z_cl0 (j := 0) (by decide) tb_65 rfl (by decide) rfl rfl rfl dX0_doAgain_13 ?_
    refine z_aload_n cx rfl rfl dX0_doAgain_16 ?_
    refine q_getI (k := 3) (n := 304) cx z_cl0 (j := 4) (by decide) tb_69 rfl (by decide) rfl rfl rfl dX0_doAgain_17 ?_
    obtain ⟨c2, h⟩ := g_if h
    refine q_iald cx (by decide) rfl c2 dX0_doAgain_20 ?_
    refine z_aload_n cx rfl rfl dX0_doAgain_21 ?_
    refine q_getF (k := 3) (n := 6) (r := 3) cx z_cl0 (j := 2) (by decide) tb_67 rfl (by decide) rfl rfl rfl dX0_doAgain_22 ?_
    refine z_aload_n cx rfl rfl dX0_doAgain_25 ?_
    refine q_getI (k := 3) (n := 304) cx z_cl0 (j := 4) (by decide) tb_69 rfl (by decide) rfl rfl rfl dX0_doAgain_26 ?_
    obtain ⟨c3, h⟩ := g_if h
    refine q_iald cx (by decide) rfl c3 dX0_doAgain_29 ?_
    obtain ⟨v4, S5, e6, h⟩ := g_bd_ex h
    refine q_cvv (As := [.int (S.2.2.1 4 (S.1 304).toNatClampNeg), .int (S.2.2.1 6 (S.1 304).toNatClampNeg)]) cx mo_X9_become mv_X9_become z_cl9 rfl tb_1032 (by decide) rfl (by decide) rfl rfl (Nat.le_of_ble_eq_true rfl) dX0_doAgain_30 (c_X9_become (S.2.2.1 4 (S.1 304).toNatClampNeg) (S.2.2.1 6 (S.1 304).toNatClampNeg) _ e6) ?_
    refine z_aload_n cx rfl rfl dX0_doAgain_33 ?_
    refine z_dup cx rfl dX0_doAgain_34 ?_
    refine q_getI (k := 3) (n := 304) cx z_cl0 (j := 4) (by decide) tb_69 rfl (by decide) rfl rfl rfl dX0_doAgain_35 ?_
    refine z_iconst (v := 1) cx (by decide +kernel) dX0_doAgain_38 ?_
    refine z_iadd cx dX0_doAgain_39 ?_
    refine q_putI (k := 3) (n := 304) cx z_cl0 (j := 4) (by decide) tb_69 rfl rfl rfl (by decide) rfl rfl rfl (by decide) (by decide) dX0_doAgain_40 ?_
    obtain ⟨S7, e8, h⟩ := g_let_ex h
    rw [← e8]
    obtain ⟨rfl, rfl⟩ := g_some h
    exact z_return cx ce rfl ⟨rfl, rfl⟩ dX0_doAgain_43
theorem c_X0_doAgain {g : z_G} (S : z_Stt) {v : Unit} {S' : z_Stt} (h : f_X0_doAgain S = some (v, S')) : z_Ct g M_X0_doAgain 1 [.ref (z_ad g 3), .ref (z_ad g 1)] (hp g S) (z_P g (none) S') :=
  z_Ct.of (by decide +kernel) rfl (Nat.le_of_ble_eq_true rfl) (fun K cx ce => q_weak (L' := [some (.ref (z_ad g 3)), some (.ref (z_ad g 1))]) (z_wk_s (z_wk_s (z_wk_0))) (t_X0_doAgain cx ce S h))
abbrev M_X1_use : z_M := (RX1, yX1_use, cX1_use, 2, none)
theorem mo_X1_use : z_mo M_X1_use 1 := ⟨tb_948, tb_23, rfl, ⟨by decide +kernel, by decide +kernel⟩, by decide +kernel, by decide⟩
theorem mv_X1_use : z_mv M_X1_use := ⟨tb_946, tb_947⟩
def f_X1_use (o : Nat) (a0 : Int32) (S : z_Stt) : Option (Unit × z_Stt) :=
  if a0 < 0 then
    some ((), S)
  else
    if 6 ≤ a0 then
      some ((), S)
    else
      if ¬ (a0 < 0 ∨ 6 ≤ a0.toNatClampNeg) then
        if ¬ (a0 < 0 ∨ 6 ≤ a0.toNatClampNeg) then
          g_let (sA S (o + 1) (upd (S.2.2.1 (o + 1)) a0.toNatClampNeg (if 12 < (S.2.2.1 (o + 1) a0.toNatClampNeg) + 1 then 12 else (S.2.2.1 (o + 1) a0.toNatClampNeg) + 1))) fun S5 =>
          g_let (sI S5 (100 * o + 1) ((S5.1 (100 * o + 1)) ||| (1 <<< (a0 &&& 31)))) fun S7 =>
          some ((), S7)
        else none
      else none
set_option maxHeartbeats 4000000 in
set_option maxRecDepth 100000 in
theorem t_X1_use {g : z_G} {K : z_K} {v : Unit} {S' : z_Stt} (cx : z_C g M_X1_use 1 K) (ce : z_E' g M_X1_use (z_P g (none) S') K) (o : Nat) (a0 : Int32) (S : z_Stt) (wo : wp1 o) (h : f_X1_use o a0 S = some (v, S')) : z_At g M_X1_use K 0 [some (.ref (z_ad g o)), some (.int a0)] [] (hp g S) := by
  unfold f_X1_use at h
  refine z_iload_n cx rfl rfl dX1_use_0 ?_
  refine z_if_lt (tgt := 41) cx (by decide) dX1_use_1 (fun c1 => ?_) (fun c1 => ?_)
  · have h := g_t c1 h
    obtain ⟨rfl, rfl⟩ := g_some h
    exact z_return cx ce rfl ⟨rfl, rfl⟩ dX1_use_41
  · have h := g_f c1 h
    refine z_iload_n cx rfl rfl dX1_use_4 ?_
    refine z_bipush (v := 6) cx (by decide +kernel) dX1_use_5 ?_
    refine z_icmp_ge (tgt := 41) cx (by decide) dX1_use_7 (fun c2 => ?_) (fun c2 => ?_)
    · have h := g_t c2 h
      obtain ⟨rfl, rfl⟩ := g_some h
      exact z_return cx ce rfl ⟨rfl, rfl⟩ dX1_use_41
    · have h := g_f c2 h
      refine z_aload_n cx rfl rfl dX1_use_10 ?_
      refine q_getF (k := o) (n := o + 1) (r := 1) cx z_cl1 (j := 0) (by decide) tb_73 rfl wo.1 wo.2.1 rfl rfl dX1_use_11 ?_
      refine z_iload_n cx rfl rfl dX1_use_14 ?_
      refine z_aload_n cx rfl rfl dX1_use_15 ?_
      refine q_getF (k := o) (n := o + 1) (r := 1) cx z_cl1 (j := 0) (by decide) tb_73 rfl wo.1 wo.2.1 rfl rfl dX1_use_16 ?_
      refine z_iload_n cx rfl rfl dX1_use_19 ?_
      obtain ⟨c3, h⟩ := g_if h
      refine q_iald cx wo.2.2.1 (wo.2.2.2.1) c3 dX1_use_20 ?_
      refine z_iconst (v := 1) cx (by decide +kernel) dX1_use_21 ?_
      refine z_iadd cx dX1_use_22 ?_
      refine z_bipush (v := 12) cx (by decide +kernel) dX1_use_23 ?_
      refine z_mmin cx tb_949 tb_238 tb_239 tb_240 (by decide) (Nat.le_of_ble_eq_true rfl) dX1_use_25 ?_
      obtain ⟨c4, h⟩ := g_if h
      refine q_iast cx wo.2.2.1 (wo.2.2.2.1) c4 dX1_use_28 ?_
      obtain ⟨S5, e6, h⟩ := g_let_ex h
      rw [← e6]
      refine z_aload_n cx rfl rfl dX1_use_29 ?_
      refine z_dup cx rfl dX1_use_30 ?_
      refine q_getI (k := o) (n := 100 * o + 1) cx z_cl1 (j := 1) (by decide) tb_74 rfl wo.1 wo.2.1 rfl rfl dX1_use_31 ?_
      refine z_iconst (v := 1) cx (by decide +kernel) dX1_use_34 ?_
      refine z_iload_n cx rfl rfl dX1_use_35 ?_
      refine z_ishl cx dX1_use_36 ?_
      refine z_ior cx dX1_use_37 ?_
      refine q_putI (k := o) (n := 100 * o + 1) cx z_cl1 (j := 1) (by decide) tb_74 rfl rfl rfl wo.1 wo.2.1 rfl rfl (by decide) (by decide) dX1_use_38 ?_
      obtain ⟨S7, e8, h⟩ := g_let_ex h
      rw [← e8]
      obtain ⟨rfl, rfl⟩ := g_some h
      exact z_return cx ce rfl ⟨rfl, rfl⟩ dX1_use_41
theorem c_X1_use {g : z_G} (o : Nat) (a0 : Int32) (S : z_Stt) {v : Unit} {S' : z_Stt} (wo : wp1 o) (h : f_X1_use o a0 S = some (v, S')) : z_Ct g M_X1_use 1 [.ref (z_ad g o), .int a0] (hp g S) (z_P g (none) S') :=
  z_Ct.of (by decide +kernel) rfl (Nat.le_of_ble_eq_true rfl) (fun K cx ce => q_weak (L' := [some (.ref (z_ad g o)), some (.int a0)]) (z_wk_s (z_wk_s (z_wk_0))) (t_X1_use cx ce o a0 S wo h))
abbrev M_X1_end : z_M := (RX1, yX1_end, cX1_end, 3, none)
theorem mo_X1_end : z_mo M_X1_end 2 := ⟨tb_962, tb_23, rfl, ⟨by decide +kernel, by decide +kernel⟩, by decide +kernel, by decide⟩
theorem mv_X1_end : z_mv M_X1_end := ⟨tb_960, tb_961⟩
def f_X1_end_86 (x0 : Nat) (S : z_Stt) : Option (Unit × z_Stt) :=
  g_let (sI S (100 * x0 + 5) (-1)) fun S1 =>
  some ((), S1)
set_option maxHeartbeats 4000000 in
set_option maxRecDepth 100000 in
theorem t_X1_end_86 {g : z_G} {K : z_K} {v : Unit} {S' : z_Stt} (cx : z_C g M_X1_end 1 K) (ce : z_E' g M_X1_end (z_P g (none) S') K) (x0 : Nat) (S : z_Stt) (wx0 : wp1 x0) (h : f_X1_end_86 x0 S = some (v, S')) : z_At g M_X1_end K 86 [some (.ref (z_ad g x0)), none, none] [] (hp g S) := by
  unfold f_X1_end_86 at h
  refine z_aload_n cx rfl rfl dX1_end_86 ?_
  refine z_iconst (v := (-1)) cx (by decide +kernel) dX1_end_87 ?_
  refine q_putI (k := x0) (n := 100 * x0 + 5) cx z_cl1 (j := 5) (by decide) tb_78 rfl rfl rfl wx0.1 wx0.2.1 rfl rfl (by decide) (by decide) dX1_end_88 ?_
  obtain ⟨S1, e2, h⟩ := g_let_ex h
  rw [← e2]
  obtain ⟨rfl, rfl⟩ := g_some h
  exact z_return cx ce rfl ⟨rfl, rfl⟩ dX1_end_91
def f_X1_end_50 (x0 : Nat) (x2 : Int32) (S : z_Stt) : Option (Unit × z_Stt) :=
  if x2 = 0 then
    f_X1_end_86 x0 S
  else
    if S.1 (100 * x0 + 6) = 0 then
      if ¬ ((2 : Int32) < 0 ∨ 5 ≤ (2 : Int32).toNatClampNeg) then
        if ¬ ((2 : Int32) < 0 ∨ 5 ≤ (2 : Int32).toNatClampNeg) then
          g_let (sA S (x0 + 2) (upd (S.2.2.1 (x0 + 2)) (2 : Int32).toNatClampNeg ((S.2.2.1 (x0 + 2) (2 : Int32).toNatClampNeg) + 1))) fun S5 =>
          g_let (sI S5 (100 * x0 + 2) (if 99 < (S5.1 (100 * x0 + 2)) + 1 then 99 else (S5.1 (100 * x0 + 2)) + 1)) fun S7 =>
          f_X1_end_86 x0 S7
        else none
      else none
    else
      f_X1_end_86 x0 S
set_option maxHeartbeats 4000000 in
set_option maxRecDepth 100000 in
theorem t_X1_end_50 {g : z_G} {K : z_K} {v : Unit} {S' : z_Stt} (cx : z_C g M_X1_end 1 K) (ce : z_E' g M_X1_end (z_P g (none) S') K) (x0 : Nat) (x2 : Int32) (S : z_Stt) (wx0 : wp1 x0) (h : f_X1_end_50 x0 x2 S = some (v, S')) : z_At g M_X1_end K 50 [some (.ref (z_ad g x0)), none, some (.int x2)] [] (hp g S) := by
  unfold f_X1_end_50 at h
  refine z_iload_n cx rfl rfl dX1_end_50 ?_
  refine z_if_eq (tgt := 86) cx (by decide) dX1_end_51 (fun c1 => ?_) (fun c1 => ?_)
  · have h := g_t c1 h
    exact q_weak (z_wk_s (z_wk_n (z_wk_n (z_wk_0)))) (t_X1_end_86 cx ce x0 S wx0 h)
  · have h := g_f c1 h
    refine z_aload_n cx rfl rfl dX1_end_54 ?_
    refine q_getI (k := x0) (n := 100 * x0 + 6) cx z_cl1 (j := 6) (by decide) tb_79 rfl wx0.1 wx0.2.1 rfl rfl dX1_end_55 ?_
    refine z_if_ne (tgt := 86) cx (by decide) dX1_end_58 (fun c2 => ?_) (fun c2 => ?_)
    · have h := g_f c2 h
      exact q_weak (z_wk_s (z_wk_n (z_wk_n (z_wk_0)))) (t_X1_end_86 cx ce x0 S wx0 h)
    · have h := g_t c2 h
      refine z_aload_n cx rfl rfl dX1_end_61 ?_
      refine q_getF (k := x0) (n := x0 + 2) (r := 2) cx z_cl1 (j := 4) (by decide) tb_77 rfl wx0.1 wx0.2.1 rfl rfl dX1_end_62 ?_
      refine z_iconst (v := 2) cx (by decide +kernel) dX1_end_65 ?_
      refine z_dup2_11 cx rfl rfl dX1_end_66 ?_
      obtain ⟨c3, h⟩ := g_if h
      refine q_iald cx wx0.2.2.2.2.1 (wx0.2.2.2.2.2) c3 dX1_end_67 ?_
      refine z_iconst (v := 1) cx (by decide +kernel) dX1_end_68 ?_
      refine z_iadd cx dX1_end_69 ?_
      obtain ⟨c4, h⟩ := g_if h
      refine q_iast cx wx0.2.2.2.2.1 (wx0.2.2.2.2.2) c4 dX1_end_70 ?_
      obtain ⟨S5, e6, h⟩ := g_let_ex h
      rw [← e6]
      refine z_aload_n cx rfl rfl dX1_end_71 ?_
      refine z_aload_n cx rfl rfl dX1_end_72 ?_
      refine q_getI (k := x0) (n := 100 * x0 + 2) cx z_cl1 (j := 2) (by decide) tb_75 rfl wx0.1 wx0.2.1 rfl rfl dX1_end_73 ?_
      refine z_iconst (v := 1) cx (by decide +kernel) dX1_end_76 ?_
      refine z_iadd cx dX1_end_77 ?_
      refine z_bipush (v := 99) cx (by decide +kernel) dX1_end_78 ?_
      refine z_mmin cx tb_949 tb_238 tb_239 tb_240 (by decide) (Nat.le_of_ble_eq_true rfl) dX1_end_80 ?_
      refine q_putI (k := x0) (n := 100 * x0 + 2) cx z_cl1 (j := 2) (by decide) tb_75 rfl rfl rfl wx0.1 wx0.2.1 rfl rfl (by decide) (by decide) dX1_end_83 ?_
      obtain ⟨S7, e8, h⟩ := g_let_ex h
      rw [← e8]
      exact q_weak (z_wk_s (z_wk_n (z_wk_n (z_wk_0)))) (t_X1_end_86 cx ce x0 S7 wx0 h)
def f_X1_end (o : Nat) (a0 : Int32) (a1 : Int32) (S : z_Stt) : Option (Unit × z_Stt) :=
  if ¬ ((0 : Int32) < 0 ∨ 5 ≤ (0 : Int32).toNatClampNeg) then
    if ¬ ((0 : Int32) < 0 ∨ 5 ≤ (0 : Int32).toNatClampNeg) then
      g_let (sA S (o + 2) (upd (S.2.2.1 (o + 2)) (0 : Int32).toNatClampNeg ((S.2.2.1 (o + 2) (0 : Int32).toNatClampNeg) + 1))) fun S3 =>
      if ¬ ((3 : Int32) < 0 ∨ 5 ≤ (3 : Int32).toNatClampNeg) then
        if ¬ ((3 : Int32) < 0 ∨ 5 ≤ (3 : Int32).toNatClampNeg) then
          g_let (sA S3 (o + 2) (upd (S3.2.2.1 (o + 2)) (3 : Int32).toNatClampNeg ((S3.2.2.1 (o + 2) (3 : Int32).toNatClampNeg) + a0))) fun S7 =>
          if ¬ ((4 : Int32) < 0 ∨ 5 ≤ (4 : Int32).toNatClampNeg) then
            if ¬ ((4 : Int32) < 0 ∨ 5 ≤ (4 : Int32).toNatClampNeg) then
              g_let (sA S7 (o + 2) (upd (S7.2.2.1 (o + 2)) (4 : Int32).toNatClampNeg (if S7.2.2.1 (o + 2) (4 : Int32).toNatClampNeg < a0 then a0 else S7.2.2.1 (o + 2) (4 : Int32).toNatClampNeg))) fun S11 =>
              if a1 = 0 then
                f_X1_end_50 o a1 S11
              else
                if ¬ ((1 : Int32) < 0 ∨ 5 ≤ (1 : Int32).toNatClampNeg) then
                  if ¬ ((1 : Int32) < 0 ∨ 5 ≤ (1 : Int32).toNatClampNeg) then
                    g_let (sA S11 (o + 2) (upd (S11.2.2.1 (o + 2)) (1 : Int32).toNatClampNeg ((S11.2.2.1 (o + 2) (1 : Int32).toNatClampNeg) + 1))) fun S16 =>
                    f_X1_end_50 o a1 S16
                  else none
                else none
            else none
          else none
        else none
      else none
    else none
  else none
set_option maxHeartbeats 4000000 in
set_option maxRecDepth 100000 in
theorem t_X1_end {g : z_G} {K : z_K} {v : Unit} {S' : z_Stt} (cx : z_C g M_X1_end 1 K) (ce : z_E' g M_X1_end (z_P g (none) S') K) (o : Nat) (a0 : Int32) (a1 : Int32) (S : z_Stt) (wo : wp1 o) (h : f_X1_end o a0 a1 S = some (v, S')) : z_At g M_X1_end K 0 [some (.ref (z_ad g o)), some (.int a0), some (.int a1)] [] (hp g S) := by
  unfold f_X1_end at h
  refine z_aload_n cx rfl rfl dX1_end_0 ?_
  refine q_getF (k := o) (n := o + 2) (r := 2) cx z_cl1 (j := 4) (by decide) tb_77 rfl wo.1 wo.2.1 rfl rfl dX1_end_1 ?_
  refine z_iconst (v := 0) cx (by decide +kernel) dX1_end_4 ?_
  refine z_dup2_11 cx rfl rfl dX1_end_5 ?_
  obtain ⟨c1, h⟩ := g_if h
  refine q_iald cx wo.2.2.2.2.1 (wo.2.2.2.2.2) c1 dX1_end_6 ?_
  refine z_iconst (v := 1) cx (by decide +kernel) dX1_end_7 ?_
  refine z_iadd cx dX1_end_8 ?_
  obtain ⟨c2, h⟩ := g_if h
  refine q_iast cx wo.2.2.2.2.1 (wo.2.2.2.2.2) c2 dX1_end_9 ?_
  obtain ⟨S3, e4, h⟩ := g_let_ex h
  rw [← e4]
  refine z_aload_n cx rfl rfl dX1_end_10 ?_
  refine q_getF (k := o) (n := o + 2) (r := 2) cx z_cl1 (j := 4) (by decide) tb_77 rfl wo.1 wo.2.1 rfl rfl dX1_end_11 ?_
  refine z_iconst (v := 3) cx (by decide +kernel) dX1_end_14 ?_
  refine z_dup2_11 cx rfl rfl dX1_end_15 ?_
  obtain ⟨c5, h⟩ := g_if h
  refine q_iald cx wo.2.2.2.2.1 (wo.2.2.2.2.2) c5 dX1_end_16 ?_
  refine z_iload_n cx rfl rfl dX1_end_17 ?_
  refine z_iadd cx dX1_end_18 ?_
  obtain ⟨c6, h⟩ := g_if h
  refine q_iast cx wo.2.2.2.2.1 (wo.2.2.2.2.2) c6 dX1_end_19 ?_
  obtain ⟨S7, e8, h⟩ := g_let_ex h
  rw [← e8]
  refine z_aload_n cx rfl rfl dX1_end_20 ?_
  refine q_getF (k := o) (n := o + 2) (r := 2) cx z_cl1 (j := 4) (by decide) tb_77 rfl wo.1 wo.2.1 rfl rfl dX1_end_21 ?_
  refine z_iconst (v := 4) cx (by decide +kernel) dX1_end_24 ?_
  refine z_aload_n cx rfl rfl dX1_end_25 ?_
  refine q_getF (k := o) (n := o + 2) (r := 2) cx z_cl1 (j := 4) (by decide) tb_77 rfl wo.1 wo.2.1 rfl rfl dX1_end_26 ?_
  refine z_iconst (v := 4) cx (by decide +kernel) dX1_end_29 ?_
  obtain ⟨c9, h⟩ := g_if h
  refine q_iald cx wo.2.2.2.2.1 (wo.2.2.2.2.2) c9 dX1_end_30 ?_
  refine z_iload_n cx rfl rfl dX1_end_31 ?_
  refine z_mmax cx tb_963 tb_242 tb_239 tb_243 (by decide) (Nat.le_of_ble_eq_true rfl) dX1_end_32 ?_
  obtain ⟨c10, h⟩ := g_if h
  refine q_iast cx wo.2.2.2.2.1 (wo.2.2.2.2.2) c10 dX1_end_35 ?_
  obtain ⟨S11, e12, h⟩ := g_let_ex h
  rw [← e12]
  refine z_iload_n cx rfl rfl dX1_end_36 ?_
  refine z_if_eq (tgt := 50) cx (by decide) dX1_end_37 (fun c13 => ?_) (fun c13 => ?_)
  · have h := g_t c13 h
    exact q_weak (z_wk_s (z_wk_n (z_wk_s (z_wk_0)))) (t_X1_end_50 cx ce o a1 S11 wo h)
  · have h := g_f c13 h
    refine z_aload_n cx rfl rfl dX1_end_40 ?_
    refine q_getF (k := o) (n := o + 2) (r := 2) cx z_cl1 (j := 4) (by decide) tb_77 rfl wo.1 wo.2.1 rfl rfl dX1_end_41 ?_
    refine z_iconst (v := 1) cx (by decide +kernel) dX1_end_44 ?_
    refine z_dup2_11 cx rfl rfl dX1_end_45 ?_
    obtain ⟨c14, h⟩ := g_if h
    refine q_iald cx wo.2.2.2.2.1 (wo.2.2.2.2.2) c14 dX1_end_46 ?_
    refine z_iconst (v := 1) cx (by decide +kernel) dX1_end_47 ?_
    refine z_iadd cx dX1_end_48 ?_
    obtain ⟨c15, h⟩ := g_if h
    refine q_iast cx wo.2.2.2.2.1 (wo.2.2.2.2.2) c15 dX1_end_49 ?_
    obtain ⟨S16, e17, h⟩ := g_let_ex h
    rw [← e17]
    exact q_weak (z_wk_s (z_wk_n (z_wk_s (z_wk_0)))) (t_X1_end_50 cx ce o a1 S16 wo h)
theorem c_X1_end {g : z_G} (o : Nat) (a0 : Int32) (a1 : Int32) (S : z_Stt) {v : Unit} {S' : z_Stt} (wo : wp1 o) (h : f_X1_end o a0 a1 S = some (v, S')) : z_Ct g M_X1_end 1 [.ref (z_ad g o), .int a0, .int a1] (hp g S) (z_P g (none) S') :=
  z_Ct.of (by decide +kernel) rfl (Nat.le_of_ble_eq_true rfl) (fun K cx ce => q_weak (L' := [some (.ref (z_ad g o)), some (.int a0), some (.int a1)]) (z_wk_s (z_wk_s (z_wk_s (z_wk_0)))) (t_X1_end cx ce o a0 a1 S wo h))
abbrev M_X1_rest : z_M := (RX1, yX1_rest, cX1_rest, 3, some .int)
theorem mo_X1_rest : z_mo M_X1_rest 0 := ⟨tb_987, tb_23, rfl, ⟨by decide +kernel, by decide +kernel⟩, by decide +kernel, by decide⟩
theorem mv_X1_rest : z_mv M_X1_rest := ⟨tb_985, tb_986⟩
def f_X1_rest_43 (n : Nat) (k4 : Nat → Int32 → Int32 → z_Stt → Option (Int32 × z_Stt)) (x0 : Nat) (x1 : Int32) (x2 : Int32) (S : z_Stt) : Option (Int32 × z_Stt) :=
  k4 x0 x1 (x2 + 1) S
set_option maxHeartbeats 4000000 in
set_option maxRecDepth 100000 in
theorem t_X1_rest_43 {g : z_G} {K : z_K} (n : Nat) {v : Int32} {S' : z_Stt} (cx : z_C g M_X1_rest 0 K) (ce : z_E' g M_X1_rest (z_P g (some (.int v)) S') K) (k4 : Nat → Int32 → Int32 → z_Stt → Option (Int32 × z_Stt)) (hk4 : ∀ (x0 : Nat) (x1 : Int32) (x2 : Int32) (S : z_Stt) (wx0 : wp1 x0), k4 x0 x1 x2 S = some (v, S') → z_At g M_X1_rest K 4 [some (.ref (z_ad g x0)), some (.int x1), some (.int x2)] [] (hp g S)) (x0 : Nat) (x1 : Int32) (x2 : Int32) (S : z_Stt) (wx0 : wp1 x0) (h : f_X1_rest_43 n k4 x0 x1 x2 S = some (v, S')) : z_At g M_X1_rest K 43 [some (.ref (z_ad g x0)), some (.int x1), some (.int x2)] [] (hp g S) := by
  unfold f_X1_rest_43 at h
  refine z_iinc (c := 1) (L' := [some (.ref (z_ad g x0)), some (.int x1), some (.int (x2 + 1))]) cx rfl (by decide +kernel) (by decide) rfl dX1_rest_43 ?_
  refine z_goto (tgt := 4) cx (by decide) dX1_rest_46 ?_
  exact q_weak (z_wk_s (z_wk_s (z_wk_s (z_wk_0)))) (hk4 x0 x1 (x2 + 1) S wx0 h)
def f_X1_rest_4 (n : Nat) : Nat → Nat → Int32 → Int32 → z_Stt → Option (Int32 × z_Stt)
  | 0, _, _, _, _ => none
  | m + 1, x0, x1, x2, S =>
    if 6 ≤ x2 then
      g_let (sI S (100 * x0 + 1) 0) fun S2 =>
      some (x1, S2)
    else
      if ((S.1 (100 * x0 + 1)) >>> (x2 &&& 31)) &&& 1 = 0 then
        if ¬ (x2 < 0 ∨ 6 ≤ x2.toNatClampNeg) then
          if S.2.2.1 (x0 + 1) x2.toNatClampNeg ≤ 0 then
            f_X1_rest_43 n (f_X1_rest_4 n m) x0 x1 x2 S
          else
            if ¬ (x2 < 0 ∨ 6 ≤ x2.toNatClampNeg) then
              if ¬ (x2 < 0 ∨ 6 ≤ x2.toNatClampNeg) then
                g_let (sA S (x0 + 1) (upd (S.2.2.1 (x0 + 1)) x2.toNatClampNeg ((S.2.2.1 (x0 + 1) x2.toNatClampNeg) - 1))) fun S9 =>
                f_X1_rest_43 n (f_X1_rest_4 n m) x0 (x1 + 1) x2 S9
              else none
            else none
        else none
      else
        f_X1_rest_43 n (f_X1_rest_4 n m) x0 x1 x2 S
set_option maxHeartbeats 4000000 in
set_option maxRecDepth 100000 in
theorem t_X1_rest_4 {g : z_G} {K : z_K} (n : Nat) {v : Int32} {S' : z_Stt} (cx : z_C g M_X1_rest 0 K) (ce : z_E' g M_X1_rest (z_P g (some (.int v)) S') K) : ∀ (m : Nat) (x0 : Nat) (x1 : Int32) (x2 : Int32) (S : z_Stt) (wx0 : wp1 x0) (h : f_X1_rest_4 n m x0 x1 x2 S = some (v, S')), z_At g M_X1_rest K 4 [some (.ref (z_ad g x0)), some (.int x1), some (.int x2)] [] (hp g S) := by
  intro m
  induction m with
  | zero => intro x0 x1 x2 S wx0 h; simp [f_X1_rest_4] at h
  | succ m ih =>
    intro x0 x1 x2 S wx0 h
    rw [f_X1_rest_4] at h
    refine z_iload_n cx rfl rfl dX1_rest_4 ?_
    refine z_bipush (v := 6) cx (by decide +kernel) dX1_rest_5 ?_
    refine z_icmp_ge (tgt := 49) cx (by decide) dX1_rest_7 (fun c1 => ?_) (fun c1 => ?_)
    · have h := g_t c1 h
      refine z_aload_n cx rfl rfl dX1_rest_49 ?_
      refine z_iconst (v := 0) cx (by decide +kernel) dX1_rest_50 ?_
      refine q_putI (k := x0) (n := 100 * x0 + 1) cx z_cl1 (j := 1) (by decide) tb_74 rfl rfl rfl wx0.1 wx0.2.1 rfl rfl (by decide) (by decide) dX1_rest_51 ?_
      obtain ⟨S2, e3, h⟩ := g_let_ex h
      rw [← e3]
      refine z_iload_n cx rfl rfl dX1_rest_54 ?_
      obtain ⟨rfl, rfl⟩ := g_some h
      exact z_ireturn cx ce rfl ⟨rfl, rfl⟩ dX1_rest_55
    · have h := g_f c1 h
      refine z_aload_n cx rfl rfl dX1_rest_10 ?_
      refine q_getI (k := x0) (n := 100 * x0 + 1) cx z_cl1 (j := 1) (by decide) tb_74 rfl wx0.1 wx0.2.1 rfl rfl dX1_rest_11 ?_
      refine z_iload_n cx rfl rfl dX1_rest_14 ?_
      refine z_ishr cx dX1_rest_15 ?_
      refine z_iconst (v := 1) cx (by decide +kernel) dX1_rest_16 ?_
      refine z_iand cx dX1_rest_17 ?_
      refine z_if_ne (tgt := 43) cx (by decide) dX1_rest_18 (fun c4 => ?_) (fun c4 => ?_)
      · have h := g_f c4 h
        exact q_weak (z_wk_s (z_wk_s (z_wk_s (z_wk_0)))) (t_X1_rest_43 n cx ce (f_X1_rest_4 n m) ih x0 x1 x2 S wx0 h)
      · have h := g_t c4 h
        refine z_aload_n cx rfl rfl dX1_rest_21 ?_
        refine q_getF (k := x0) (n := x0 + 1) (r := 1) cx z_cl1 (j := 0) (by decide) tb_73 rfl wx0.1 wx0.2.1 rfl rfl dX1_rest_22 ?_
        refine z_iload_n cx rfl rfl dX1_rest_25 ?_
        obtain ⟨c5, h⟩ := g_if h
        refine q_iald cx wx0.2.2.1 (wx0.2.2.2.1) c5 dX1_rest_26 ?_
        refine z_if_le (tgt := 43) cx (by decide) dX1_rest_27 (fun c6 => ?_) (fun c6 => ?_)
        · have h := g_t c6 h
          exact q_weak (z_wk_s (z_wk_s (z_wk_s (z_wk_0)))) (t_X1_rest_43 n cx ce (f_X1_rest_4 n m) ih x0 x1 x2 S wx0 h)
        · have h := g_f c6 h
          refine z_aload_n cx rfl rfl dX1_rest_30 ?_
          refine q_getF (k := x0) (n := x0 + 1) (r := 1) cx z_cl1 (j := 0) (by decide) tb_73 rfl wx0.1 wx0.2.1 rfl rfl dX1_rest_31 ?_
          refine z_iload_n cx rfl rfl dX1_rest_34 ?_
          refine z_dup2_11 cx rfl rfl dX1_rest_35 ?_
          obtain ⟨c7, h⟩ := g_if h
          refine q_iald cx wx0.2.2.1 (wx0.2.2.2.1) c7 dX1_rest_36 ?_
          refine z_iconst (v := 1) cx (by decide +kernel) dX1_rest_37 ?_
          refine z_isub cx dX1_rest_38 ?_
          obtain ⟨c8, h⟩ := g_if h
          refine q_iast cx wx0.2.2.1 (wx0.2.2.2.1) c8 dX1_rest_39 ?_
          obtain ⟨S9, e10, h⟩ := g_let_ex h
          rw [← e10]
          refine z_iinc (c := 1) (L' := [some (.ref (z_ad g x0)), some (.int (x1 + 1)), some (.int x2)]) cx rfl (by decide +kernel) (by decide) rfl dX1_rest_40 ?_
          exact q_weak (z_wk_s (z_wk_s (z_wk_s (z_wk_0)))) (t_X1_rest_43 n cx ce (f_X1_rest_4 n m) ih x0 (x1 + 1) x2 S9 wx0 h)
def f_X1_rest (n : Nat) (o : Nat) (S : z_Stt) : Option (Int32 × z_Stt) :=
  f_X1_rest_4 n n o 0 0 S
set_option maxHeartbeats 4000000 in
set_option maxRecDepth 100000 in
theorem t_X1_rest {g : z_G} {K : z_K} (n : Nat) {v : Int32} {S' : z_Stt} (cx : z_C g M_X1_rest 0 K) (ce : z_E' g M_X1_rest (z_P g (some (.int v)) S') K) (o : Nat) (S : z_Stt) (wo : wp1 o) (h : f_X1_rest n o S = some (v, S')) : z_At g M_X1_rest K 0 [some (.ref (z_ad g o)), none, none] [] (hp g S) := by
  unfold f_X1_rest at h
  refine z_iconst (v := 0) cx (by decide +kernel) dX1_rest_0 ?_
  refine z_istore_n (L' := [some (.ref (z_ad g o)), some (.int 0), none]) cx rfl (by decide) rfl dX1_rest_1 ?_
  refine z_iconst (v := 0) cx (by decide +kernel) dX1_rest_2 ?_
  refine z_istore_n (L' := [some (.ref (z_ad g o)), some (.int 0), some (.int 0)]) cx rfl (by decide) rfl dX1_rest_3 ?_
  exact q_weak (z_wk_s (z_wk_s (z_wk_s (z_wk_0)))) (t_X1_rest_4 n cx ce n o 0 0 S wo h)
theorem c_X1_rest {g : z_G} {n : Nat} (o : Nat) (S : z_Stt) {v : Int32} {S' : z_Stt} (wo : wp1 o) (h : f_X1_rest n o S = some (v, S')) : z_Ct g M_X1_rest 0 [.ref (z_ad g o)] (hp g S) (z_P g (some (.int v)) S') :=
  z_Ct.of (by decide +kernel) rfl (Nat.le_of_ble_eq_true rfl) (fun K cx ce => q_weak (L' := [some (.ref (z_ad g o)), none, none]) (z_wk_s (z_wk_e (z_wk_e (z_wk_0)))) (t_X1_rest n cx ce o S wo h))
abbrev M_X1_copy : z_M := (RX1, yX1_copy, cX1_copy, 3, none)
theorem mo_X1_copy : z_mo M_X1_copy 1 := ⟨tb_1008, tb_23, rfl, ⟨by decide +kernel, by decide +kernel⟩, by decide +kernel, by decide⟩
theorem mv_X1_copy : z_mv M_X1_copy := ⟨tb_1006, tb_1007⟩
def f_X1_copy_28 (n : Nat) : Nat → Nat → Nat → Int32 → z_Stt → Option (Unit × z_Stt)
  | 0, _, _, _, _ => none
  | m + 1, x0, x1, x2, S =>
    if 5 ≤ x2 then
      g_let (sI S (100 * x0 + 1) (S.1 (100 * x1 + 1))) fun S2 =>
      g_let (sI S2 (100 * x0 + 2) (S2.1 (100 * x1 + 2))) fun S4 =>
      g_let (sI S4 (100 * x0 + 3) (S4.1 (100 * x1 + 3))) fun S6 =>
      g_let (sI S6 (100 * x0 + 5) (S6.1 (100 * x1 + 5))) fun S8 =>
      if S8.1 (100 * x1 + 6) = 0 ∨ S8.1 (100 * x1 + 6) = 1 then
        g_let (sI S8 (100 * x0 + 6) (S8.1 (100 * x1 + 6))) fun S11 =>
        some ((), S11)
      else none
    else
      if ¬ (x2 < 0 ∨ 5 ≤ x2.toNatClampNeg) then
        if ¬ (x2 < 0 ∨ 5 ≤ x2.toNatClampNeg) then
          g_let (sA S (x0 + 2) (upd (S.2.2.1 (x0 + 2)) x2.toNatClampNeg (S.2.2.1 (x1 + 2) x2.toNatClampNeg))) fun S15 =>
          f_X1_copy_28 n m x0 x1 (x2 + 1) S15
        else none
      else none
set_option maxHeartbeats 4000000 in
set_option maxRecDepth 100000 in
theorem t_X1_copy_28 {g : z_G} {K : z_K} (n : Nat) {v : Unit} {S' : z_Stt} (cx : z_C g M_X1_copy 0 K) (ce : z_E' g M_X1_copy (z_P g (none) S') K) : ∀ (m : Nat) (x0 : Nat) (x1 : Nat) (x2 : Int32) (S : z_Stt) (wx0 : wp1 x0) (wx1 : wp1 x1) (h : f_X1_copy_28 n m x0 x1 x2 S = some (v, S')), z_At g M_X1_copy K 28 [some (.ref (z_ad g x0)), some (.ref (z_ad g x1)), some (.int x2)] [] (hp g S) := by
  intro m
  induction m with
  | zero => intro x0 x1 x2 S wx0 wx1 h; simp [f_X1_copy_28] at h
  | succ m ih =>
    intro x0 x1 x2 S wx0 wx1 h
    rw [f_X1_copy_28] at h
    refine z_iload_n cx rfl rfl dX1_copy_28 ?_
    refine z_iconst (v := 5) cx (by decide +kernel) dX1_copy_29 ?_
    refine z_icmp_ge (tgt := 51) cx (by decide) dX1_copy_30 (fun c1 => ?_) (fun c1 => ?_)
    · have h := g_t c1 h
      refine z_aload_n cx rfl rfl dX1_copy_51 ?_
      refine z_aload_n cx rfl rfl dX1_copy_52 ?_
      refine q_getI (k := x1) (n := 100 * x1 + 1) cx z_cl1 (j := 1) (by decide) tb_74 rfl wx1.1 wx1.2.1 rfl rfl dX1_copy_53 ?_
      refine q_putI (k := x0) (n := 100 * x0 + 1) cx z_cl1 (j := 1) (by decide) tb_74 rfl rfl rfl wx0.1 wx0.2.1 rfl rfl (by decide) (by decide) dX1_copy_56 ?_
      obtain ⟨S2, e3, h⟩ := g_let_ex h
      rw [← e3]
      refine z_aload_n cx rfl rfl dX1_copy_59 ?_
      refine z_aload_n cx rfl rfl dX1_copy_60 ?_
      refine q_getI (k := x1) (n := 100 * x1 + 2) cx z_cl1 (j := 2) (by decide) tb_75 rfl wx1.1 wx1.2.1 rfl rfl dX1_copy_61 ?_
      refine q_putI (k := x0) (n := 100 * x0 + 2) cx z_cl1 (j := 2) (by decide) tb_75 rfl rfl rfl wx0.1 wx0.2.1 rfl rfl (by decide) (by decide) dX1_copy_64 ?_
      obtain ⟨S4, e5, h⟩ := g_let_ex h
      rw [← e5]
      refine z_aload_n cx rfl rfl dX1_copy_67 ?_
      refine z_aload_n cx rfl rfl dX1_copy_68 ?_
      refine q_getI (k := x1) (n := 100 * x1 + 3) cx z_cl1 (j := 3) (by decide) tb_76 rfl wx1.1 wx1.2.1 rfl rfl dX1_copy_69 ?_
      refine q_putI (k := x0) (n := 100 * x0 + 3) cx z_cl1 (j := 3) (by decide) tb_76 rfl rfl rfl wx0.1 wx0.2.1 rfl rfl (by decide) (by decide) dX1_copy_72 ?_
      obtain ⟨S6, e7, h⟩ := g_let_ex h
      rw [← e7]
      refine z_aload_n cx rfl rfl dX1_copy_75 ?_
      refine z_aload_n cx rfl rfl dX1_copy_76 ?_
      refine q_getI (k := x1) (n := 100 * x1 + 5) cx z_cl1 (j := 5) (by decide) tb_78 rfl wx1.1 wx1.2.1 rfl rfl dX1_copy_77 ?_
      refine q_putI (k := x0) (n := 100 * x0 + 5) cx z_cl1 (j := 5) (by decide) tb_78 rfl rfl rfl wx0.1 wx0.2.1 rfl rfl (by decide) (by decide) dX1_copy_80 ?_
      obtain ⟨S8, e9, h⟩ := g_let_ex h
      rw [← e9]
      refine z_aload_n cx rfl rfl dX1_copy_83 ?_
      refine z_aload_n cx rfl rfl dX1_copy_84 ?_
      refine q_getI (k := x1) (n := 100 * x1 + 6) cx z_cl1 (j := 6) (by decide) tb_79 rfl wx1.1 wx1.2.1 rfl rfl dX1_copy_85 ?_
      obtain ⟨c10, h⟩ := g_if h
      refine q_putZ (k := x0) (n := 100 * x0 + 6) cx z_cl1 (j := 6) (by decide) tb_79 rfl rfl rfl c10 wx0.1 wx0.2.1 rfl rfl (by decide) (by decide) dX1_copy_88 ?_
      obtain ⟨S11, e12, h⟩ := g_let_ex h
      rw [← e12]
      obtain ⟨rfl, rfl⟩ := g_some h
      exact z_return cx ce rfl ⟨rfl, rfl⟩ dX1_copy_91
    · have h := g_f c1 h
      refine z_aload_n cx rfl rfl dX1_copy_33 ?_
      refine q_getF (k := x0) (n := x0 + 2) (r := 2) cx z_cl1 (j := 4) (by decide) tb_77 rfl wx0.1 wx0.2.1 rfl rfl dX1_copy_34 ?_
      refine z_iload_n cx rfl rfl dX1_copy_37 ?_
      refine z_aload_n cx rfl rfl dX1_copy_38 ?_
      refine q_getF (k := x1) (n := x1 + 2) (r := 2) cx z_cl1 (j := 4) (by decide) tb_77 rfl wx1.1 wx1.2.1 rfl rfl dX1_copy_39 ?_
      refine z_iload_n cx rfl rfl dX1_copy_42 ?_
      obtain ⟨c13, h⟩ := g_if h
      refine q_iald cx wx1.2.2.2.2.1 (wx1.2.2.2.2.2) c13 dX1_copy_43 ?_
      obtain ⟨c14, h⟩ := g_if h
      refine q_iast cx wx0.2.2.2.2.1 (wx0.2.2.2.2.2) c14 dX1_copy_44 ?_
      obtain ⟨S15, e16, h⟩ := g_let_ex h
      rw [← e16]
      refine z_iinc (c := 1) (L' := [some (.ref (z_ad g x0)), some (.ref (z_ad g x1)), some (.int (x2 + 1))]) cx rfl (by decide +kernel) (by decide) rfl dX1_copy_45 ?_
      refine z_goto (tgt := 28) cx (by decide) dX1_copy_48 ?_
      exact q_weak (z_wk_s (z_wk_s (z_wk_s (z_wk_0)))) (ih x0 x1 (x2 + 1) S15 wx0 wx1 h)
def f_X1_copy_2 (n : Nat) : Nat → Nat → Nat → Int32 → z_Stt → Option (Unit × z_Stt)
  | 0, _, _, _, _ => none
  | m + 1, x0, x1, x2, S =>
    if 6 ≤ x2 then
      f_X1_copy_28 n n x0 x1 0 S
    else
      if ¬ (x2 < 0 ∨ 6 ≤ x2.toNatClampNeg) then
        if ¬ (x2 < 0 ∨ 6 ≤ x2.toNatClampNeg) then
          g_let (sA S (x0 + 1) (upd (S.2.2.1 (x0 + 1)) x2.toNatClampNeg (S.2.2.1 (x1 + 1) x2.toNatClampNeg))) fun S4 =>
          f_X1_copy_2 n m x0 x1 (x2 + 1) S4
        else none
      else none
set_option maxHeartbeats 4000000 in
set_option maxRecDepth 100000 in
theorem t_X1_copy_2 {g : z_G} {K : z_K} (n : Nat) {v : Unit} {S' : z_Stt} (cx : z_C g M_X1_copy 0 K) (ce : z_E' g M_X1_copy (z_P g (none) S') K) : ∀ (m : Nat) (x0 : Nat) (x1 : Nat) (x2 : Int32) (S : z_Stt) (wx0 : wp1 x0) (wx1 : wp1 x1) (h : f_X1_copy_2 n m x0 x1 x2 S = some (v, S')), z_At g M_X1_copy K 2 [some (.ref (z_ad g x0)), some (.ref (z_ad g x1)), some (.int x2)] [] (hp g S) := by
  intro m
  induction m with
  | zero => intro x0 x1 x2 S wx0 wx1 h; simp [f_X1_copy_2] at h
  | succ m ih =>
    intro x0 x1 x2 S wx0 wx1 h
    rw [f_X1_copy_2] at h
    refine z_iload_n cx rfl rfl dX1_copy_2 ?_
    refine z_bipush (v := 6) cx (by decide +kernel) dX1_copy_3 ?_
    refine z_icmp_ge (tgt := 26) cx (by decide) dX1_copy_5 (fun c1 => ?_) (fun c1 => ?_)
    · have h := g_t c1 h
      refine z_iconst (v := 0) cx (by decide +kernel) dX1_copy_26 ?_
      refine z_istore_n (L' := [some (.ref (z_ad g x0)), some (.ref (z_ad g x1)), some (.int 0)]) cx rfl (by decide) rfl dX1_copy_27 ?_
      exact q_weak (z_wk_s (z_wk_s (z_wk_s (z_wk_0)))) (t_X1_copy_28 n cx ce n x0 x1 0 S wx0 wx1 h)
    · have h := g_f c1 h
      refine z_aload_n cx rfl rfl dX1_copy_8 ?_
      refine q_getF (k := x0) (n := x0 + 1) (r := 1) cx z_cl1 (j := 0) (by decide) tb_73 rfl wx0.1 wx0.2.1 rfl rfl dX1_copy_9 ?_
      refine z_iload_n cx rfl rfl dX1_copy_12 ?_
      refine z_aload_n cx rfl rfl dX1_copy_13 ?_
      refine q_getF (k := x1) (n := x1 + 1) (r := 1) cx z_cl1 (j := 0) (by decide) tb_73 rfl wx1.1 wx1.2.1 rfl rfl dX1_copy_14 ?_
      refine z_iload_n cx rfl rfl dX1_copy_17 ?_
      obtain ⟨c2, h⟩ := g_if h
      refine q_iald cx wx1.2.2.1 (wx1.2.2.2.1) c2 dX1_copy_18 ?_
      obtain ⟨c3, h⟩ := g_if h
      refine q_iast cx wx0.2.2.1 (wx0.2.2.2.1) c3 dX1_copy_19 ?_
      obtain ⟨S4, e5, h⟩ := g_let_ex h
      rw [← e5]
      refine z_iinc (c := 1) (L' := [some (.ref (z_ad g x0)), some (.ref (z_ad g x1)), some (.int (x2 + 1))]) cx rfl (by decide +kernel) (by decide) rfl dX1_copy_20 ?_
      refine z_goto (tgt := 2) cx (by decide) dX1_copy_23 ?_
      exact q_weak (z_wk_s (z_wk_s (z_wk_s (z_wk_0)))) (ih x0 x1 (x2 + 1) S4 wx0 wx1 h)
def f_X1_copy (n : Nat) (o : Nat) (a0 : Nat) (S : z_Stt) : Option (Unit × z_Stt) :=
  f_X1_copy_2 n n o a0 0 S
set_option maxHeartbeats 4000000 in
set_option maxRecDepth 100000 in
theorem t_X1_copy {g : z_G} {K : z_K} (n : Nat) {v : Unit} {S' : z_Stt} (cx : z_C g M_X1_copy 0 K) (ce : z_E' g M_X1_copy (z_P g (none) S') K) (o : Nat) (a0 : Nat) (S : z_Stt) (wo : wp1 o) (wa0 : wp1 a0) (h : f_X1_copy n o a0 S = some (v, S')) : z_At g M_X1_copy K 0 [some (.ref (z_ad g o)), some (.ref (z_ad g a0)), none] [] (hp g S) := by
  unfold f_X1_copy at h
  refine z_iconst (v := 0) cx (by decide +kernel) dX1_copy_0 ?_
  refine z_istore_n (L' := [some (.ref (z_ad g o)), some (.ref (z_ad g a0)), some (.int 0)]) cx rfl (by decide) rfl dX1_copy_1 ?_
  exact q_weak (z_wk_s (z_wk_s (z_wk_s (z_wk_0)))) (t_X1_copy_2 n cx ce n o a0 0 S wo wa0 h)
theorem c_X1_copy {g : z_G} {n : Nat} (o : Nat) (a0 : Nat) (S : z_Stt) {v : Unit} {S' : z_Stt} (wo : wp1 o) (wa0 : wp1 a0) (h : f_X1_copy n o a0 S = some (v, S')) : z_Ct g M_X1_copy 0 [.ref (z_ad g o), .ref (z_ad g a0)] (hp g S) (z_P g (none) S') :=
  z_Ct.of (by decide +kernel) rfl (Nat.le_of_ble_eq_true rfl) (fun K cx ce => q_weak (L' := [some (.ref (z_ad g o)), some (.ref (z_ad g a0)), none]) (z_wk_s (z_wk_s (z_wk_e (z_wk_0)))) (t_X1_copy n cx ce o a0 S wo wa0 h))
abbrev M_X3_draw : z_M := (RX3, yX3_draw, cX3_draw, 2, some .int)
theorem mo_X3_draw : z_mo M_X3_draw 1 := ⟨tb_862, tb_45, rfl, ⟨by decide +kernel, by decide +kernel⟩, by decide +kernel, by decide⟩
theorem mv_X3_draw : z_mv M_X3_draw := ⟨tb_860, tb_861⟩
def f_X3_draw (a0 : Int32) (S : z_Stt) : Option (Int32 × z_Stt) :=
  g_let (sI S 3100 (((S.1 3100) * 1103515245) + 12345)) fun S1 =>
  if a0 ≤ 0 then
    some (0, S1)
  else
    if ¬ a0 = 0 then
      some ((((S1.1 3100).toUInt32 >>> (Int32.toUInt32 8 &&& Int32.toUInt32 31)).toInt32) % a0, S1)
    else none
set_option maxHeartbeats 4000000 in
set_option maxRecDepth 100000 in
theorem t_X3_draw {g : z_G} {K : z_K} {v : Int32} {S' : z_Stt} (cx : z_C g M_X3_draw 0 K) (ce : z_E' g M_X3_draw (z_P g (some (.int v)) S') K) (a0 : Int32) (S : z_Stt) (h : f_X3_draw a0 S = some (v, S')) : z_At g M_X3_draw K 0 [some (.ref (z_ad g 31)), some (.int a0)] [] (hp g S) := by
  unfold f_X3_draw at h
  refine z_aload_n cx rfl rfl dX3_draw_0 ?_
  refine z_aload_n cx rfl rfl dX3_draw_1 ?_
  refine q_getI (k := 31) (n := 3100) cx z_cl3 (j := 0) (by decide) tb_117 rfl (by decide) rfl rfl rfl dX3_draw_2 ?_
  refine z_ldc cx tb_863 dX3_draw_5 ?_
  refine z_imul cx dX3_draw_7 ?_
  refine z_sipush (v := 12345) cx (by decide +kernel) dX3_draw_8 ?_
  refine z_iadd cx dX3_draw_11 ?_
  refine q_putI (k := 31) (n := 3100) cx z_cl3 (j := 0) (by decide) tb_117 rfl rfl rfl (by decide) rfl rfl rfl (by decide) (by decide) dX3_draw_12 ?_
  obtain ⟨S1, e2, h⟩ := g_let_ex h
  rw [← e2]
  refine z_iload_n cx rfl rfl dX3_draw_15 ?_
  refine z_if_le (tgt := 31) cx (by decide) dX3_draw_16 (fun c3 => ?_) (fun c3 => ?_)
  · have h := g_t c3 h
    refine z_iconst (v := 0) cx (by decide +kernel) dX3_draw_31 ?_
    obtain ⟨rfl, rfl⟩ := g_some h
    exact z_ireturn cx ce rfl ⟨rfl, rfl⟩ dX3_draw_32
  · have h := g_f c3 h
    refine z_aload_n cx rfl rfl dX3_draw_19 ?_
    refine q_getI (k := 31) (n := 3100) cx z_cl3 (j := 0) (by decide) tb_117 rfl (by decide) rfl rfl rfl dX3_draw_20 ?_
    refine z_bipush (v := 8) cx (by decide +kernel) dX3_draw_23 ?_
    refine z_iushr cx rfl dX3_draw_25 ?_
    refine z_iload_n cx rfl rfl dX3_draw_26 ?_
    obtain ⟨c4, h⟩ := g_if h
    refine z_irem cx c4 dX3_draw_27 ?_
    refine z_goto (tgt := 32) cx (by decide) dX3_draw_28 ?_
    obtain ⟨rfl, rfl⟩ := g_some h
    exact z_ireturn cx ce rfl ⟨rfl, rfl⟩ dX3_draw_32
theorem c_X3_draw {g : z_G} (a0 : Int32) (S : z_Stt) {v : Int32} {S' : z_Stt} (h : f_X3_draw a0 S = some (v, S')) : z_Ct g M_X3_draw 0 [.ref (z_ad g 31), .int a0] (hp g S) (z_P g (some (.int v)) S') :=
  z_Ct.of (by decide +kernel) rfl (Nat.le_of_ble_eq_true rfl) (fun K cx ce => q_weak (L' := [some (.ref (z_ad g 31)), some (.int a0)]) (z_wk_s (z_wk_s (z_wk_0))) (t_X3_draw cx ce a0 S h))
abbrev M_X3_drawMorning : z_M := (RX3, yX3_drawMorning, cX3_drawMorning, 4, none)
theorem mo_X3_drawMorning : z_mo M_X3_drawMorning 3 := ⟨tb_858, tb_45, rfl, ⟨by decide +kernel, by decide +kernel⟩, by decide +kernel, by decide⟩
theorem mv_X3_drawMorning : z_mv M_X3_drawMorning := ⟨tb_856, tb_857⟩
def f_X3_drawMorning_47 (y0 : Int32) (S : z_Stt) : Option (Unit × z_Stt) :=
  if y0 = 0 ∨ y0 = 1 then
    g_let (sI S 3102 y0) fun S2 =>
    some ((), S2)
  else none
set_option maxHeartbeats 4000000 in
set_option maxRecDepth 100000 in
theorem t_X3_drawMorning_47 {g : z_G} {K : z_K} {v : Unit} {S' : z_Stt} (cx : z_C g M_X3_drawMorning 1 K) (ce : z_E' g M_X3_drawMorning (z_P g (none) S') K) (y0 : Int32) (S : z_Stt) (h : f_X3_drawMorning_47 y0 S = some (v, S')) : z_At g M_X3_drawMorning K 47 [none, none, none, none] [.int y0, .ref (z_ad g 31)] (hp g S) := by
  unfold f_X3_drawMorning_47 at h
  obtain ⟨c1, h⟩ := g_if h
  refine q_putZ (k := 31) (n := 3102) cx z_cl3 (j := 2) (by decide) tb_119 rfl rfl rfl c1 (by decide) rfl rfl rfl (by decide) (by decide) dX3_drawMorning_47 ?_
  obtain ⟨S2, e3, h⟩ := g_let_ex h
  rw [← e3]
  obtain ⟨rfl, rfl⟩ := g_some h
  exact z_return cx ce rfl ⟨rfl, rfl⟩ dX3_drawMorning_50
def f_X3_drawMorning_39 (y0 : Int32) (y1 : Int32) (S : z_Stt) : Option (Unit × z_Stt) :=
  if y0 ≤ y1 then
    f_X3_drawMorning_47 0 S
  else
    f_X3_drawMorning_47 1 S
set_option maxHeartbeats 4000000 in
set_option maxRecDepth 100000 in
theorem t_X3_drawMorning_39 {g : z_G} {K : z_K} {v : Unit} {S' : z_Stt} (cx : z_C g M_X3_drawMorning 1 K) (ce : z_E' g M_X3_drawMorning (z_P g (none) S') K) (y0 : Int32) (y1 : Int32) (S : z_Stt) (h : f_X3_drawMorning_39 y0 y1 S = some (v, S')) : z_At g M_X3_drawMorning K 39 [none, none, none, none] [.int y0, .int y1, .ref (z_ad g 31)] (hp g S) := by
  unfold f_X3_drawMorning_39 at h
  refine z_icmp_ge (tgt := 46) cx (by decide) dX3_drawMorning_39 (fun c1 => ?_) (fun c1 => ?_)
  · have h := g_t c1 h
    refine z_iconst (v := 0) cx (by decide +kernel) dX3_drawMorning_46 ?_
    exact q_weak (z_wk_n (z_wk_n (z_wk_n (z_wk_n (z_wk_0))))) (t_X3_drawMorning_47 cx ce 0 S h)
  · have h := g_f c1 h
    refine z_iconst (v := 1) cx (by decide +kernel) dX3_drawMorning_42 ?_
    refine z_goto (tgt := 47) cx (by decide) dX3_drawMorning_43 ?_
    exact q_weak (z_wk_n (z_wk_n (z_wk_n (z_wk_n (z_wk_0))))) (t_X3_drawMorning_47 cx ce 1 S h)
def f_X3_drawMorning_17 (x2 : Int32) (x3 : Int32) (y0 : Int32) (S : z_Stt) : Option (Unit × z_Stt) :=
  if y0 = 0 ∨ y0 = 1 then
    g_let (sI S 3101 y0) fun S2 =>
    g_bd (f_X3_draw 12 S2) fun v4 S5 =>
    if S5.1 3101 = 0 then
      f_X3_drawMorning_39 x2 v4 S5
    else
      f_X3_drawMorning_39 x3 v4 S5
  else none
set_option maxHeartbeats 4000000 in
set_option maxRecDepth 100000 in
theorem t_X3_drawMorning_17 {g : z_G} {K : z_K} {v : Unit} {S' : z_Stt} (cx : z_C g M_X3_drawMorning 1 K) (ce : z_E' g M_X3_drawMorning (z_P g (none) S') K) (x2 : Int32) (x3 : Int32) (y0 : Int32) (S : z_Stt) (h : f_X3_drawMorning_17 x2 x3 y0 S = some (v, S')) : z_At g M_X3_drawMorning K 17 [some (.ref (z_ad g 31)), none, some (.int x2), some (.int x3)] [.int y0, .ref (z_ad g 31)] (hp g S) := by
  unfold f_X3_drawMorning_17 at h
  obtain ⟨c1, h⟩ := g_if h
  refine q_putZ (k := 31) (n := 3101) cx z_cl3 (j := 1) (by decide) tb_118 rfl rfl rfl c1 (by decide) rfl rfl rfl (by decide) (by decide) dX3_drawMorning_17 ?_
  obtain ⟨S2, e3, h⟩ := g_let_ex h
  rw [← e3]
  refine z_aload_n cx rfl rfl dX3_drawMorning_20 ?_
  refine z_aload_n cx rfl rfl dX3_drawMorning_21 ?_
  refine z_bipush (v := 12) cx (by decide +kernel) dX3_drawMorning_22 ?_
  obtain ⟨v4, S5, e6, h⟩ := g_bd_ex h
  refine q_cvi (As := [.int 12]) cx mo_X3_draw mv_X3_draw z_cl3 rfl tb_859 (by decide) rfl (by decide) rfl rfl (Nat.le_of_ble_eq_true rfl) dX3_drawMorning_24 (c_X3_draw 12 _ e6) ?_
  refine z_aload_n cx rfl rfl dX3_drawMorning_27 ?_
  refine q_getI (k := 31) (n := 3101) cx z_cl3 (j := 1) (by decide) tb_118 rfl (by decide) rfl rfl rfl dX3_drawMorning_28 ?_
  refine z_if_eq (tgt := 38) cx (by decide) dX3_drawMorning_31 (fun c7 => ?_) (fun c7 => ?_)
  · have h := g_t c7 h
    refine z_iload_n cx rfl rfl dX3_drawMorning_38 ?_
    exact q_weak (z_wk_n (z_wk_n (z_wk_n (z_wk_n (z_wk_0))))) (t_X3_drawMorning_39 cx ce x2 v4 S5 h)
  · have h := g_f c7 h
    refine z_iload_n cx rfl rfl dX3_drawMorning_34 ?_
    refine z_goto (tgt := 39) cx (by decide) dX3_drawMorning_35 ?_
    exact q_weak (z_wk_n (z_wk_n (z_wk_n (z_wk_n (z_wk_0))))) (t_X3_drawMorning_39 cx ce x3 v4 S5 h)
def f_X3_drawMorning (a0 : Int32) (a1 : Int32) (a2 : Int32) (S : z_Stt) : Option (Unit × z_Stt) :=
  g_bd (f_X3_draw 144 S) fun v1 S2 =>
  if a0 ≤ v1 then
    f_X3_drawMorning_17 a1 a2 0 S2
  else
    f_X3_drawMorning_17 a1 a2 1 S2
set_option maxHeartbeats 4000000 in
set_option maxRecDepth 100000 in
theorem t_X3_drawMorning {g : z_G} {K : z_K} {v : Unit} {S' : z_Stt} (cx : z_C g M_X3_drawMorning 1 K) (ce : z_E' g M_X3_drawMorning (z_P g (none) S') K) (a0 : Int32) (a1 : Int32) (a2 : Int32) (S : z_Stt) (h : f_X3_drawMorning a0 a1 a2 S = some (v, S')) : z_At g M_X3_drawMorning K 0 [some (.ref (z_ad g 31)), some (.int a0), some (.int a1), some (.int a2)] [] (hp g S) := by
  unfold f_X3_drawMorning at h
  refine z_aload_n cx rfl rfl dX3_drawMorning_0 ?_
  refine z_aload_n cx rfl rfl dX3_drawMorning_1 ?_
  refine z_sipush (v := 144) cx (by decide +kernel) dX3_drawMorning_2 ?_
  obtain ⟨v1, S2, e3, h⟩ := g_bd_ex h
  refine q_cvi (As := [.int 144]) cx mo_X3_draw mv_X3_draw z_cl3 rfl tb_859 (by decide) rfl (by decide) rfl rfl (Nat.le_of_ble_eq_true rfl) dX3_drawMorning_5 (c_X3_draw 144 _ e3) ?_
  refine z_iload_n cx rfl rfl dX3_drawMorning_8 ?_
  refine z_icmp_ge (tgt := 16) cx (by decide) dX3_drawMorning_9 (fun c4 => ?_) (fun c4 => ?_)
  · have h := g_t c4 h
    refine z_iconst (v := 0) cx (by decide +kernel) dX3_drawMorning_16 ?_
    exact q_weak (z_wk_s (z_wk_n (z_wk_s (z_wk_s (z_wk_0))))) (t_X3_drawMorning_17 cx ce a1 a2 0 S2 h)
  · have h := g_f c4 h
    refine z_iconst (v := 1) cx (by decide +kernel) dX3_drawMorning_12 ?_
    refine z_goto (tgt := 17) cx (by decide) dX3_drawMorning_13 ?_
    exact q_weak (z_wk_s (z_wk_n (z_wk_s (z_wk_s (z_wk_0))))) (t_X3_drawMorning_17 cx ce a1 a2 1 S2 h)
theorem c_X3_drawMorning {g : z_G} (a0 : Int32) (a1 : Int32) (a2 : Int32) (S : z_Stt) {v : Unit} {S' : z_Stt} (h : f_X3_drawMorning a0 a1 a2 S = some (v, S')) : z_Ct g M_X3_drawMorning 1 [.ref (z_ad g 31), .int a0, .int a1, .int a2] (hp g S) (z_P g (none) S') :=
  z_Ct.of (by decide +kernel) rfl (Nat.le_of_ble_eq_true rfl) (fun K cx ce => q_weak (L' := [some (.ref (z_ad g 31)), some (.int a0), some (.int a1), some (.int a2)]) (z_wk_s (z_wk_s (z_wk_s (z_wk_s (z_wk_0))))) (t_X3_drawMorning cx ce a0 a1 a2 S h))
abbrev M_X4_commonDivisor : z_M := (RX4, yX4_commonDivisor, cX4_commonDivisor, 7, some .long)
theorem mo_X4_commonDivisor : z_mo M_X4_commonDivisor 2 := ⟨tb_463, tb_33, rfl, ⟨by decide +kernel, by decide +kernel⟩, by decide +kernel, by decide⟩
theorem ms_X4_commonDivisor : z_ms M_X4_commonDivisor := tb_462
def f_X4_commonDivisor_3 (n : Nat) : Nat → Int64 → Int64 → Int32 → z_Stt → Option (Int64 × z_Stt)
  | 0, _, _, _, _ => none
  | m + 1, x0, x2, x4, S =>
    if 100 ≤ x4 then
      some (x0, S)
    else
      if lg_cmp x2 0 = 0 then
        some (x0, S)
      else
        if ¬ x2 = 0 then
          f_X4_commonDivisor_3 n m x2 (x0 % x2) (x4 + 1) S
        else none
set_option maxHeartbeats 4000000 in
set_option maxRecDepth 100000 in
theorem t_X4_commonDivisor_3 {g : z_G} {K : z_K} (n : Nat) {v : Int64} {S' : z_Stt} (cx : z_C g M_X4_commonDivisor 0 K) (ce : z_E' g M_X4_commonDivisor (z_P g (some (.long v)) S') K) : ∀ (m : Nat) (x0 : Int64) (x2 : Int64) (x4 : Int32) (S : z_Stt) (h : f_X4_commonDivisor_3 n m x0 x2 x4 S = some (v, S')), z_At g M_X4_commonDivisor K 3 [some (.long x0), none, some (.long x2), none, some (.int x4), none, none] [] (hp g S) := by
  intro m
  induction m with
  | zero => intro x0 x2 x4 S h; simp [f_X4_commonDivisor_3] at h
  | succ m ih =>
    intro x0 x2 x4 S h
    rw [f_X4_commonDivisor_3] at h
    refine z_iload cx rfl dX4_commonDivisor_3 ?_
    refine z_bipush (v := 100) cx (by decide +kernel) dX4_commonDivisor_5 ?_
    refine z_icmp_ge (tgt := 32) cx (by decide) dX4_commonDivisor_7 (fun c1 => ?_) (fun c1 => ?_)
    · have h := g_t c1 h
      refine z_lload_n cx rfl rfl dX4_commonDivisor_32 ?_
      obtain ⟨rfl, rfl⟩ := g_some h
      exact z_lreturn cx ce rfl ⟨rfl, rfl⟩ dX4_commonDivisor_33
    · have h := g_f c1 h
      refine z_lload_n cx rfl rfl dX4_commonDivisor_10 ?_
      refine z_lconst (v := 0) cx (by decide +kernel) dX4_commonDivisor_11 ?_
      refine z_lcmp cx dX4_commonDivisor_12 ?_
      refine z_if_eq (tgt := 32) cx (by decide) dX4_commonDivisor_13 (fun c2 => ?_) (fun c2 => ?_)
      · have h := g_t c2 h
        refine z_lload_n cx rfl rfl dX4_commonDivisor_32 ?_
        obtain ⟨rfl, rfl⟩ := g_some h
        exact z_lreturn cx ce rfl ⟨rfl, rfl⟩ dX4_commonDivisor_33
      · have h := g_f c2 h
        refine z_lload_n cx rfl rfl dX4_commonDivisor_16 ?_
        refine z_lload_n cx rfl rfl dX4_commonDivisor_17 ?_
        obtain ⟨c3, h⟩ := g_if h
        refine z_lrem cx c3 dX4_commonDivisor_18 ?_
        refine z_lstore (L' := [some (.long x0), none, some (.long x2), none, some (.int x4), some (.long (x0 % x2)), none]) cx (by decide) rfl dX4_commonDivisor_19 ?_
        refine z_lload_n cx rfl rfl dX4_commonDivisor_21 ?_
        refine z_lstore_n (L' := [some (.long x2), none, some (.long x2), none, some (.int x4), some (.long (x0 % x2)), none]) cx rfl (by decide) rfl dX4_commonDivisor_22 ?_
        refine z_lload cx rfl dX4_commonDivisor_23 ?_
        refine z_lstore_n (L' := [some (.long x2), none, some (.long (x0 % x2)), none, some (.int x4), some (.long (x0 % x2)), none]) cx rfl (by decide) rfl dX4_commonDivisor_25 ?_
        refine z_iinc (c := 1) (L' := [some (.long x2), none, some (.long (x0 % x2)), none, some (.int (x4 + 1)), some (.long (x0 % x2)), none]) cx rfl (by decide +kernel) (by decide) rfl dX4_commonDivisor_26 ?_
        refine z_goto (tgt := 3) cx (by decide) dX4_commonDivisor_29 ?_
        exact q_weak (z_wk_s (z_wk_n (z_wk_s (z_wk_n (z_wk_s (z_wk_n (z_wk_n (z_wk_0)))))))) (ih x2 (x0 % x2) (x4 + 1) S h)
def f_X4_commonDivisor (n : Nat) (a0 : Int64) (a1 : Int64) (S : z_Stt) : Option (Int64 × z_Stt) :=
  f_X4_commonDivisor_3 n n a0 a1 0 S
set_option maxHeartbeats 4000000 in
set_option maxRecDepth 100000 in
theorem t_X4_commonDivisor {g : z_G} {K : z_K} (n : Nat) {v : Int64} {S' : z_Stt} (cx : z_C g M_X4_commonDivisor 0 K) (ce : z_E' g M_X4_commonDivisor (z_P g (some (.long v)) S') K) (a0 : Int64) (a1 : Int64) (S : z_Stt) (h : f_X4_commonDivisor n a0 a1 S = some (v, S')) : z_At g M_X4_commonDivisor K 0 [some (.long a0), none, some (.long a1), none, none, none, none] [] (hp g S) := by
  unfold f_X4_commonDivisor at h
  refine z_iconst (v := 0) cx (by decide +kernel) dX4_commonDivisor_0 ?_
  refine z_istore (L' := [some (.long a0), none, some (.long a1), none, some (.int 0), none, none]) cx (by decide) rfl dX4_commonDivisor_1 ?_
  exact q_weak (z_wk_s (z_wk_n (z_wk_s (z_wk_n (z_wk_s (z_wk_n (z_wk_n (z_wk_0)))))))) (t_X4_commonDivisor_3 n cx ce n a0 a1 0 S h)
theorem c_X4_commonDivisor {g : z_G} {n : Nat} (a0 : Int64) (a1 : Int64) (S : z_Stt) {v : Int64} {S' : z_Stt} (h : f_X4_commonDivisor n a0 a1 S = some (v, S')) : z_Ct g M_X4_commonDivisor 0 [.long a0, .long a1] (hp g S) (z_P g (some (.long v)) S') :=
  z_Ct.of (by decide +kernel) rfl (Nat.le_of_ble_eq_true rfl) (fun K cx ce => q_weak (L' := [some (.long a0), none, some (.long a1), none, none, none, none]) (z_wk_s (z_wk_n (z_wk_s (z_wk_n (z_wk_e (z_wk_e (z_wk_e (z_wk_0)))))))) (t_X4_commonDivisor n cx ce a0 a1 S h))
abbrev M_X4_become : z_M := (RX4, yX4_become, cX4_become, 7, some .boolean)
theorem mo_X4_become : z_mo M_X4_become 2 := ⟨tb_457, tb_33, rfl, ⟨by decide +kernel, by decide +kernel⟩, by decide +kernel, by decide⟩
theorem mv_X4_become : z_mv M_X4_become := ⟨tb_455, tb_456⟩
def f_X4_become_38 (n : Nat) (x0 : Nat) (x1 : Int64) (x3 : Int64) (x5 : Int64) (S : z_Stt) : Option (Bool × z_Stt) :=
  if ¬ x5 = 0 then
    g_let (sJ S (100 * x0 + 0) (x1 / x5)) fun S2 =>
    if ¬ x5 = 0 then
      g_let (sJ S2 (100 * x0 + 1) (x3 / x5)) fun S5 =>
      some (true, S5)
    else none
  else none
set_option maxHeartbeats 4000000 in
set_option maxRecDepth 100000 in
theorem t_X4_become_38 {g : z_G} {K : z_K} (n : Nat) {v : Bool} {S' : z_Stt} (cx : z_C g M_X4_become 1 K) (ce : z_E' g M_X4_become (z_P g (some (.int (bI v))) S') K) (x0 : Nat) (x1 : Int64) (x3 : Int64) (x5 : Int64) (S : z_Stt) (wx0 : wp4 x0) (h : f_X4_become_38 n x0 x1 x3 x5 S = some (v, S')) : z_At g M_X4_become K 38 [some (.ref (z_ad g x0)), some (.long x1), none, some (.long x3), none, some (.long x5), none] [] (hp g S) := by
  unfold f_X4_become_38 at h
  refine z_aload_n cx rfl rfl dX4_become_38 ?_
  refine z_lload_n cx rfl rfl dX4_become_39 ?_
  refine z_lload cx rfl dX4_become_40 ?_
  obtain ⟨c1, h⟩ := g_if h
  refine z_ldiv cx c1 dX4_become_42 ?_
  refine q_putJ (k := x0) (n := 100 * x0 + 0) cx z_cl4 (j := 0) (by decide) tb_93 rfl rfl rfl wx0.1 wx0.2 rfl rfl (by decide) (by decide) dX4_become_43 ?_
  obtain ⟨S2, e3, h⟩ := g_let_ex h
  rw [← e3]
  refine z_aload_n cx rfl rfl dX4_become_46 ?_
  refine z_lload_n cx rfl rfl dX4_become_47 ?_
  refine z_lload cx rfl dX4_become_48 ?_
  obtain ⟨c4, h⟩ := g_if h
  refine z_ldiv cx c4 dX4_become_50 ?_
  refine q_putJ (k := x0) (n := 100 * x0 + 1) cx z_cl4 (j := 1) (by decide) tb_94 rfl rfl rfl wx0.1 wx0.2 rfl rfl (by decide) (by decide) dX4_become_51 ?_
  obtain ⟨S5, e6, h⟩ := g_let_ex h
  rw [← e6]
  refine z_iconst (v := 1) cx (by decide +kernel) dX4_become_54 ?_
  obtain ⟨rfl, rfl⟩ := g_some h
  exact z_zreturn cx ce rfl (by decide +kernel) ⟨rfl, rfl⟩ dX4_become_55
def f_X4_become (n : Nat) (o : Nat) (a0 : Int64) (a1 : Int64) (S : z_Stt) : Option (Bool × z_Stt) :=
  if 0 < lg_cmp a1 0 then
    g_bd (f_X4_commonDivisor n (if 0 < a0 then a0 else -a0) a1 S) fun v2 S3 =>
    if 0 < lg_cmp v2 0 then
      f_X4_become_38 n o a0 a1 v2 S3
    else
      f_X4_become_38 n o a0 a1 1 S3
  else
    g_let (sJ S (100 * o + 0) 0) fun S6 =>
    g_let (sJ S6 (100 * o + 1) 1) fun S8 =>
    some (false, S8)
set_option maxHeartbeats 4000000 in
set_option maxRecDepth 100000 in
theorem t_X4_become {g : z_G} {K : z_K} (n : Nat) {v : Bool} {S' : z_Stt} (cx : z_C g M_X4_become 1 K) (ce : z_E' g M_X4_become (z_P g (some (.int (bI v))) S') K) (o : Nat) (a0 : Int64) (a1 : Int64) (S : z_Stt) (wo : wp4 o) (h : f_X4_become n o a0 a1 S = some (v, S')) : z_At g M_X4_become K 0 [some (.ref (z_ad g o)), some (.long a0), none, some (.long a1), none, none, none] [] (hp g S) := by
  unfold f_X4_become at h
  refine z_lload_n cx rfl rfl dX4_become_0 ?_
  refine z_lconst (v := 0) cx (by decide +kernel) dX4_become_1 ?_
  refine z_lcmp cx dX4_become_2 ?_
  refine z_if_gt (tgt := 18) cx (by decide) dX4_become_3 (fun c1 => ?_) (fun c1 => ?_)
  · have h := g_t c1 h
    refine z_lload_n cx rfl rfl dX4_become_18 ?_
    refine z_labs cx tb_458 tb_459 tb_239 tb_460 (by decide) (Nat.le_of_ble_eq_true rfl) dX4_become_19 ?_
    refine z_lload_n cx rfl rfl dX4_become_22 ?_
    obtain ⟨v2, S3, e4, h⟩ := g_bd_ex h
    refine q_csl (As := [.long (if 0 < a0 then a0 else -a0), .long a1]) cx mo_X4_commonDivisor ms_X4_commonDivisor tb_461 (by decide) rfl rfl (Nat.le_of_ble_eq_true rfl) dX4_become_23 (c_X4_commonDivisor (if 0 < a0 then a0 else -a0) a1 _ e4) ?_
    refine z_lstore (L' := [some (.ref (z_ad g o)), some (.long a0), none, some (.long a1), none, some (.long v2), none]) cx (by decide) rfl dX4_become_26 ?_
    refine z_lload cx rfl dX4_become_28 ?_
    refine z_lconst (v := 0) cx (by decide +kernel) dX4_become_30 ?_
    refine z_lcmp cx dX4_become_31 ?_
    refine z_if_gt (tgt := 38) cx (by decide) dX4_become_32 (fun c5 => ?_) (fun c5 => ?_)
    · have h := g_t c5 h
      exact q_weak (z_wk_s (z_wk_s (z_wk_n (z_wk_s (z_wk_n (z_wk_s (z_wk_n (z_wk_0)))))))) (t_X4_become_38 n cx ce o a0 a1 v2 S3 wo h)
    · have h := g_f c5 h
      refine z_lconst (v := 1) cx (by decide +kernel) dX4_become_35 ?_
      refine z_lstore (L' := [some (.ref (z_ad g o)), some (.long a0), none, some (.long a1), none, some (.long 1), none]) cx (by decide) rfl dX4_become_36 ?_
      exact q_weak (z_wk_s (z_wk_s (z_wk_n (z_wk_s (z_wk_n (z_wk_s (z_wk_n (z_wk_0)))))))) (t_X4_become_38 n cx ce o a0 a1 1 S3 wo h)
  · have h := g_f c1 h
    refine z_aload_n cx rfl rfl dX4_become_6 ?_
    refine z_lconst (v := 0) cx (by decide +kernel) dX4_become_7 ?_
    refine q_putJ (k := o) (n := 100 * o + 0) cx z_cl4 (j := 0) (by decide) tb_93 rfl rfl rfl wo.1 wo.2 rfl rfl (by decide) (by decide) dX4_become_8 ?_
    obtain ⟨S6, e7, h⟩ := g_let_ex h
    rw [← e7]
    refine z_aload_n cx rfl rfl dX4_become_11 ?_
    refine z_lconst (v := 1) cx (by decide +kernel) dX4_become_12 ?_
    refine q_putJ (k := o) (n := 100 * o + 1) cx z_cl4 (j := 1) (by decide) tb_94 rfl rfl rfl wo.1 wo.2 rfl rfl (by decide) (by decide) dX4_become_13 ?_
    obtain ⟨S8, e9, h⟩ := g_let_ex h
    rw [← e9]
    refine z_iconst (v := 0) cx (by decide +kernel) dX4_become_16 ?_
    obtain ⟨rfl, rfl⟩ := g_some h
    exact z_zreturn cx ce rfl (by decide +kernel) ⟨rfl, rfl⟩ dX4_become_17
theorem c_X4_become {g : z_G} {n : Nat} (o : Nat) (a0 : Int64) (a1 : Int64) (S : z_Stt) {v : Bool} {S' : z_Stt} (wo : wp4 o) (h : f_X4_become n o a0 a1 S = some (v, S')) : z_Ct g M_X4_become 1 [.ref (z_ad g o), .long a0, .long a1] (hp g S) (z_P g (some (.int (bI v))) S') :=
  z_Ct.of (by decide +kernel) rfl (Nat.le_of_ble_eq_true rfl) (fun K cx ce => q_weak (L' := [some (.ref (z_ad g o)), some (.long a0), none, some (.long a1), none, none, none]) (z_wk_s (z_wk_s (z_wk_n (z_wk_s (z_wk_n (z_wk_e (z_wk_e (z_wk_0)))))))) (t_X4_become n cx ce o a0 a1 S wo h))
abbrev M_X4_part : z_M := (RX4, yX4_part, cX4_part, 2, some .long)
theorem mo_X4_part : z_mo M_X4_part 1 := ⟨tb_479, tb_33, rfl, ⟨by decide +kernel, by decide +kernel⟩, by decide +kernel, by decide⟩
theorem mv_X4_part : z_mv M_X4_part := ⟨tb_477, tb_478⟩
def f_X4_part (o : Nat) (a0 : Int32) (S : z_Stt) : Option (Int64 × z_Stt) :=
  if a0 = 0 then
    some (S.2.1 (100 * o + 0), S)
  else
    some (S.2.1 (100 * o + 1), S)
set_option maxHeartbeats 4000000 in
set_option maxRecDepth 100000 in
theorem t_X4_part {g : z_G} {K : z_K} {v : Int64} {S' : z_Stt} (cx : z_C g M_X4_part 0 K) (ce : z_E' g M_X4_part (z_P g (some (.long v)) S') K) (o : Nat) (a0 : Int32) (S : z_Stt) (wo : wp4 o) (h : f_X4_part o a0 S = some (v, S')) : z_At g M_X4_part K 0 [some (.ref (z_ad g o)), some (.int a0)] [] (hp g S) := by
  unfold f_X4_part at h
  refine z_iload_n cx rfl rfl dX4_part_0 ?_
  refine z_if_ne (tgt := 11) cx (by decide) dX4_part_1 (fun c1 => ?_) (fun c1 => ?_)
  · have h := g_f c1 h
    refine z_aload_n cx rfl rfl dX4_part_11 ?_
    refine q_getJ (k := o) (n := 100 * o + 1) cx z_cl4 (j := 1) (by decide) tb_94 rfl wo.1 wo.2 rfl rfl dX4_part_12 ?_
    obtain ⟨rfl, rfl⟩ := g_some h
    exact z_lreturn cx ce rfl ⟨rfl, rfl⟩ dX4_part_15
  · have h := g_t c1 h
    refine z_aload_n cx rfl rfl dX4_part_4 ?_
    refine q_getJ (k := o) (n := 100 * o + 0) cx z_cl4 (j := 0) (by decide) tb_93 rfl wo.1 wo.2 rfl rfl dX4_part_5 ?_
    refine z_goto (tgt := 15) cx (by decide) dX4_part_8 ?_
    obtain ⟨rfl, rfl⟩ := g_some h
    exact z_lreturn cx ce rfl ⟨rfl, rfl⟩ dX4_part_15
theorem c_X4_part {g : z_G} (o : Nat) (a0 : Int32) (S : z_Stt) {v : Int64} {S' : z_Stt} (wo : wp4 o) (h : f_X4_part o a0 S = some (v, S')) : z_Ct g M_X4_part 0 [.ref (z_ad g o), .int a0] (hp g S) (z_P g (some (.long v)) S') :=
  z_Ct.of (by decide +kernel) rfl (Nat.le_of_ble_eq_true rfl) (fun K cx ce => q_weak (L' := [some (.ref (z_ad g o)), some (.int a0)]) (z_wk_s (z_wk_s (z_wk_0))) (t_X4_part cx ce o a0 S wo h))
abbrev M_X4_of144 : z_M := (RX4, yX4_of144, cX4_of144, 1, some .int)
theorem mo_X4_of144 : z_mo M_X4_of144 0 := ⟨tb_666, tb_33, rfl, ⟨by decide +kernel, by decide +kernel⟩, by decide +kernel, by decide⟩
theorem mv_X4_of144 : z_mv M_X4_of144 := ⟨tb_664, tb_665⟩
def f_X4_of144 (o : Nat) (S : z_Stt) : Option (Int32 × z_Stt) :=
  if lg_cmp (S.2.1 (100 * o + 1)) 0 ≤ 0 then
    some (0, S)
  else
    if ¬ S.2.1 (100 * o + 1) = 0 then
      some (Int64.toInt32 ((144 * (S.2.1 (100 * o + 0))) / (S.2.1 (100 * o + 1))), S)
    else none
set_option maxHeartbeats 4000000 in
set_option maxRecDepth 100000 in
theorem t_X4_of144 {g : z_G} {K : z_K} {v : Int32} {S' : z_Stt} (cx : z_C g M_X4_of144 0 K) (ce : z_E' g M_X4_of144 (z_P g (some (.int v)) S') K) (o : Nat) (S : z_Stt) (wo : wp4 o) (h : f_X4_of144 o S = some (v, S')) : z_At g M_X4_of144 K 0 [some (.ref (z_ad g o))] [] (hp g S) := by
  unfold f_X4_of144 at h
  refine z_aload_n cx rfl rfl dX4_of144_0 ?_
  refine q_getJ (k := o) (n := 100 * o + 1) cx z_cl4 (j := 1) (by decide) tb_94 rfl wo.1 wo.2 rfl rfl dX4_of144_1 ?_
  refine z_lconst (v := 0) cx (by decide +kernel) dX4_of144_4 ?_
  refine z_lcmp cx dX4_of144_5 ?_
  refine z_if_le (tgt := 26) cx (by decide) dX4_of144_6 (fun c1 => ?_) (fun c1 => ?_)
  · have h := g_t c1 h
    refine z_iconst (v := 0) cx (by decide +kernel) dX4_of144_26 ?_
    obtain ⟨rfl, rfl⟩ := g_some h
    exact z_ireturn cx ce rfl ⟨rfl, rfl⟩ dX4_of144_27
  · have h := g_f c1 h
    refine z_ldc2 cx tb_667 dX4_of144_9 ?_
    refine z_aload_n cx rfl rfl dX4_of144_12 ?_
    refine q_getJ (k := o) (n := 100 * o + 0) cx z_cl4 (j := 0) (by decide) tb_93 rfl wo.1 wo.2 rfl rfl dX4_of144_13 ?_
    refine z_lmul cx dX4_of144_16 ?_
    refine z_aload_n cx rfl rfl dX4_of144_17 ?_
    refine q_getJ (k := o) (n := 100 * o + 1) cx z_cl4 (j := 1) (by decide) tb_94 rfl wo.1 wo.2 rfl rfl dX4_of144_18 ?_
    obtain ⟨c2, h⟩ := g_if h
    refine z_ldiv cx c2 dX4_of144_21 ?_
    refine z_l2i cx dX4_of144_22 ?_
    refine z_goto (tgt := 27) cx (by decide) dX4_of144_23 ?_
    obtain ⟨rfl, rfl⟩ := g_some h
    exact z_ireturn cx ce rfl ⟨rfl, rfl⟩ dX4_of144_27
theorem c_X4_of144 {g : z_G} (o : Nat) (S : z_Stt) {v : Int32} {S' : z_Stt} (wo : wp4 o) (h : f_X4_of144 o S = some (v, S')) : z_Ct g M_X4_of144 0 [.ref (z_ad g o)] (hp g S) (z_P g (some (.int v)) S') :=
  z_Ct.of (by decide +kernel) rfl (Nat.le_of_ble_eq_true rfl) (fun K cx ce => q_weak (L' := [some (.ref (z_ad g o))]) (z_wk_s (z_wk_0)) (t_X4_of144 cx ce o S wo h))
abbrev M_X8_holdGoer : z_M := (RX8, yX8_holdGoer, cX8_holdGoer, 2, none)
theorem mo_X8_holdGoer : z_mo M_X8_holdGoer 1 := ⟨tb_1141, tb_54, rfl, ⟨by decide +kernel, by decide +kernel⟩, by decide +kernel, by decide⟩
theorem mv_X8_holdGoer : z_mv M_X8_holdGoer := ⟨tb_1139, tb_1140⟩
def f_X8_holdGoer_10 (x0 : Nat) (x1 : Int32) (y0 : Int32) (y1 : Nat) (S : z_Stt) : Option (Unit × z_Stt) :=
  g_let (sI S (100 * y1 + 0) y0) fun S1 =>
  g_let (sI S1 (100 * x0 + 1) x1) fun S3 =>
  some ((), S3)
set_option maxHeartbeats 4000000 in
set_option maxRecDepth 100000 in
theorem t_X8_holdGoer_10 {g : z_G} {K : z_K} {v : Unit} {S' : z_Stt} (cx : z_C g M_X8_holdGoer 0 K) (ce : z_E' g M_X8_holdGoer (z_P g (none) S') K) (x0 : Nat) (x1 : Int32) (y0 : Int32) (y1 : Nat) (S : z_Stt) (wx0 : wp8 x0) (wy1 : wp8 y1) (h : f_X8_holdGoer_10 x0 x1 y0 y1 S = some (v, S')) : z_At g M_X8_holdGoer K 10 [some (.ref (z_ad g x0)), some (.int x1)] [.int y0, .ref (z_ad g y1)] (hp g S) := by
  unfold f_X8_holdGoer_10 at h
  refine q_putI (k := y1) (n := 100 * y1 + 0) cx z_cl8 (j := 0) (by decide) tb_132 rfl rfl rfl wy1.1 wy1.2.1 rfl rfl (by decide) (by decide) dX8_holdGoer_10 ?_
  obtain ⟨S1, e2, h⟩ := g_let_ex h
  rw [← e2]
  refine z_aload_n cx rfl rfl dX8_holdGoer_13 ?_
  refine z_iload_n cx rfl rfl dX8_holdGoer_14 ?_
  refine q_putI (k := x0) (n := 100 * x0 + 1) cx z_cl8 (j := 1) (by decide) tb_133 rfl rfl rfl wx0.1 wx0.2.1 rfl rfl (by decide) (by decide) dX8_holdGoer_15 ?_
  obtain ⟨S3, e4, h⟩ := g_let_ex h
  rw [← e4]
  obtain ⟨rfl, rfl⟩ := g_some h
  exact z_return cx ce rfl ⟨rfl, rfl⟩ dX8_holdGoer_18
def f_X8_holdGoer (o : Nat) (a0 : Int32) (S : z_Stt) : Option (Unit × z_Stt) :=
  if 0 ≤ a0 then
    f_X8_holdGoer_10 o a0 1 o S
  else
    f_X8_holdGoer_10 o a0 0 o S
set_option maxHeartbeats 4000000 in
set_option maxRecDepth 100000 in
theorem t_X8_holdGoer {g : z_G} {K : z_K} {v : Unit} {S' : z_Stt} (cx : z_C g M_X8_holdGoer 0 K) (ce : z_E' g M_X8_holdGoer (z_P g (none) S') K) (o : Nat) (a0 : Int32) (S : z_Stt) (wo : wp8 o) (h : f_X8_holdGoer o a0 S = some (v, S')) : z_At g M_X8_holdGoer K 0 [some (.ref (z_ad g o)), some (.int a0)] [] (hp g S) := by
  unfold f_X8_holdGoer at h
  refine z_aload_n cx rfl rfl dX8_holdGoer_0 ?_
  refine z_iload_n cx rfl rfl dX8_holdGoer_1 ?_
  refine z_if_ge (tgt := 9) cx (by decide) dX8_holdGoer_2 (fun c1 => ?_) (fun c1 => ?_)
  · have h := g_t c1 h
    refine z_iconst (v := 1) cx (by decide +kernel) dX8_holdGoer_9 ?_
    exact q_weak (z_wk_s (z_wk_s (z_wk_0))) (t_X8_holdGoer_10 cx ce o a0 1 o S wo wo h)
  · have h := g_f c1 h
    refine z_iconst (v := 0) cx (by decide +kernel) dX8_holdGoer_5 ?_
    refine z_goto (tgt := 10) cx (by decide) dX8_holdGoer_6 ?_
    exact q_weak (z_wk_s (z_wk_s (z_wk_0))) (t_X8_holdGoer_10 cx ce o a0 0 o S wo wo h)
theorem c_X8_holdGoer {g : z_G} (o : Nat) (a0 : Int32) (S : z_Stt) {v : Unit} {S' : z_Stt} (wo : wp8 o) (h : f_X8_holdGoer o a0 S = some (v, S')) : z_Ct g M_X8_holdGoer 0 [.ref (z_ad g o), .int a0] (hp g S) (z_P g (none) S') :=
  z_Ct.of (by decide +kernel) rfl (Nat.le_of_ble_eq_true rfl) (fun K cx ce => q_weak (L' := [some (.ref (z_ad g o)), some (.int a0)]) (z_wk_s (z_wk_s (z_wk_0))) (t_X8_holdGoer cx ce o a0 S wo h))
abbrev M_X8_holdRow : z_M := (RX8, yX8_holdRow, cX8_holdRow, 4, none)
theorem mo_X8_holdRow : z_mo M_X8_holdRow 2 := ⟨tb_1153, tb_54, rfl, ⟨by decide +kernel, by decide +kernel⟩, by decide +kernel, by decide⟩
theorem mv_X8_holdRow : z_mv M_X8_holdRow := ⟨tb_1151, tb_1152⟩
def f_X8_holdRow_31 (n : Nat) : Nat → Nat → Int32 → z_Stt → Option (Unit × z_Stt)
  | 0, _, _, _ => none
  | m + 1, x0, x3, S =>
    if 60 ≤ x3 then
      some ((), S)
    else
      if ¬ (x3 < 0 ∨ 60 ≤ x3.toNatClampNeg) then
        g_let (sE S (x0 + 1) (vp_updL (S.2.2.2.1 (x0 + 1)) x3.toNatClampNeg 0)) fun S3 =>
        f_X8_holdRow_31 n m x0 (x3 + 1) S3
      else none
set_option maxHeartbeats 4000000 in
set_option maxRecDepth 100000 in
theorem t_X8_holdRow_31 {g : z_G} {K : z_K} (n : Nat) {v : Unit} {S' : z_Stt} (cx : z_C g M_X8_holdRow 0 K) (ce : z_E' g M_X8_holdRow (z_P g (none) S') K) : ∀ (m : Nat) (x0 : Nat) (x3 : Int32) (S : z_Stt) (wx0 : wp8 x0) (h : f_X8_holdRow_31 n m x0 x3 S = some (v, S')), z_At g M_X8_holdRow K 31 [some (.ref (z_ad g x0)), none, none, some (.int x3)] [] (hp g S) := by
  intro m
  induction m with
  | zero => intro x0 x3 S wx0 h; simp [f_X8_holdRow_31] at h
  | succ m ih =>
    intro x0 x3 S wx0 h
    rw [f_X8_holdRow_31] at h
    refine z_iload_n cx rfl rfl dX8_holdRow_31 ?_
    refine z_bipush (v := 60) cx (by decide +kernel) dX8_holdRow_32 ?_
    refine z_icmp_ge (tgt := 50) cx (by decide) dX8_holdRow_34 (fun c1 => ?_) (fun c1 => ?_)
    · have h := g_t c1 h
      obtain ⟨rfl, rfl⟩ := g_some h
      exact z_return cx ce rfl ⟨rfl, rfl⟩ dX8_holdRow_50
    · have h := g_f c1 h
      refine z_aload_n cx rfl rfl dX8_holdRow_37 ?_
      refine q_getF (k := x0) (n := x0 + 1) (r := 1) cx z_cl8 (j := 4) (by decide) tb_136 rfl wx0.1 wx0.2.1 rfl rfl dX8_holdRow_38 ?_
      refine z_iload_n cx rfl rfl dX8_holdRow_41 ?_
      refine z_lconst (v := 0) cx (by decide +kernel) dX8_holdRow_42 ?_
      obtain ⟨c2, h⟩ := g_if h
      refine q_last cx wx0.2.2.1 (wx0.2.2.2) c2 dX8_holdRow_43 ?_
      obtain ⟨S3, e4, h⟩ := g_let_ex h
      rw [← e4]
      refine z_iinc (c := 1) (L' := [some (.ref (z_ad g x0)), none, none, some (.int (x3 + 1))]) cx rfl (by decide +kernel) (by decide) rfl dX8_holdRow_44 ?_
      refine z_goto (tgt := 31) cx (by decide) dX8_holdRow_47 ?_
      exact q_weak (z_wk_s (z_wk_n (z_wk_n (z_wk_s (z_wk_0))))) (ih x0 (x3 + 1) S3 wx0 h)
def f_X8_holdRow_26 (n : Nat) (x0 : Nat) (y0 : Int32) (y1 : Nat) (S : z_Stt) : Option (Unit × z_Stt) :=
  g_let (sI S (100 * y1 + 3) y0) fun S1 =>
  f_X8_holdRow_31 n n x0 0 S1
set_option maxHeartbeats 4000000 in
set_option maxRecDepth 100000 in
theorem t_X8_holdRow_26 {g : z_G} {K : z_K} (n : Nat) {v : Unit} {S' : z_Stt} (cx : z_C g M_X8_holdRow 0 K) (ce : z_E' g M_X8_holdRow (z_P g (none) S') K) (x0 : Nat) (y0 : Int32) (y1 : Nat) (S : z_Stt) (wx0 : wp8 x0) (wy1 : wp8 y1) (h : f_X8_holdRow_26 n x0 y0 y1 S = some (v, S')) : z_At g M_X8_holdRow K 26 [some (.ref (z_ad g x0)), none, none, none] [.int y0, .ref (z_ad g y1)] (hp g S) := by
  unfold f_X8_holdRow_26 at h
  refine q_putI (k := y1) (n := 100 * y1 + 3) cx z_cl8 (j := 3) (by decide) tb_135 rfl rfl rfl wy1.1 wy1.2.1 rfl rfl (by decide) (by decide) dX8_holdRow_26 ?_
  obtain ⟨S1, e2, h⟩ := g_let_ex h
  rw [← e2]
  refine z_iconst (v := 0) cx (by decide +kernel) dX8_holdRow_29 ?_
  refine z_istore_n (L' := [some (.ref (z_ad g x0)), none, none, some (.int 0)]) cx rfl (by decide) rfl dX8_holdRow_30 ?_
  exact q_weak (z_wk_s (z_wk_n (z_wk_n (z_wk_s (z_wk_0))))) (t_X8_holdRow_31 n cx ce n x0 0 S1 wx0 h)
def f_X8_holdRow_25 (n : Nat) (x0 : Nat) (y0 : Nat) (S : z_Stt) : Option (Unit × z_Stt) :=
  f_X8_holdRow_26 n x0 0 y0 S
set_option maxHeartbeats 4000000 in
set_option maxRecDepth 100000 in
theorem t_X8_holdRow_25 {g : z_G} {K : z_K} (n : Nat) {v : Unit} {S' : z_Stt} (cx : z_C g M_X8_holdRow 0 K) (ce : z_E' g M_X8_holdRow (z_P g (none) S') K) (x0 : Nat) (y0 : Nat) (S : z_Stt) (wx0 : wp8 x0) (wy0 : wp8 y0) (h : f_X8_holdRow_25 n x0 y0 S = some (v, S')) : z_At g M_X8_holdRow K 25 [some (.ref (z_ad g x0)), none, none, none] [.ref (z_ad g y0)] (hp g S) := by
  unfold f_X8_holdRow_25 at h
  refine z_iconst (v := 0) cx (by decide +kernel) dX8_holdRow_25 ?_
  exact q_weak (z_wk_s (z_wk_n (z_wk_n (z_wk_n (z_wk_0))))) (t_X8_holdRow_26 n cx ce x0 0 y0 S wx0 wy0 h)
def f_X8_holdRow (n : Nat) (o : Nat) (a0 : Int32) (a1 : Int32) (S : z_Stt) : Option (Unit × z_Stt) :=
  g_let (sI S (100 * o + 0) 2) fun S1 =>
  g_let (sI S1 (100 * o + 2) a0) fun S3 =>
  if a1 < 0 then
    f_X8_holdRow_25 n o o S3
  else
    if 60 < a1 then
      f_X8_holdRow_25 n o o S3
    else
      f_X8_holdRow_26 n o a1 o S3
set_option maxHeartbeats 4000000 in
set_option maxRecDepth 100000 in
theorem t_X8_holdRow {g : z_G} {K : z_K} (n : Nat) {v : Unit} {S' : z_Stt} (cx : z_C g M_X8_holdRow 0 K) (ce : z_E' g M_X8_holdRow (z_P g (none) S') K) (o : Nat) (a0 : Int32) (a1 : Int32) (S : z_Stt) (wo : wp8 o) (h : f_X8_holdRow n o a0 a1 S = some (v, S')) : z_At g M_X8_holdRow K 0 [some (.ref (z_ad g o)), some (.int a0), some (.int a1), none] [] (hp g S) := by
  unfold f_X8_holdRow at h
  refine z_aload_n cx rfl rfl dX8_holdRow_0 ?_
  refine z_iconst (v := 2) cx (by decide +kernel) dX8_holdRow_1 ?_
  refine q_putI (k := o) (n := 100 * o + 0) cx z_cl8 (j := 0) (by decide) tb_132 rfl rfl rfl wo.1 wo.2.1 rfl rfl (by decide) (by decide) dX8_holdRow_2 ?_
  obtain ⟨S1, e2, h⟩ := g_let_ex h
  rw [← e2]
  refine z_aload_n cx rfl rfl dX8_holdRow_5 ?_
  refine z_iload_n cx rfl rfl dX8_holdRow_6 ?_
  refine q_putI (k := o) (n := 100 * o + 2) cx z_cl8 (j := 2) (by decide) tb_134 rfl rfl rfl wo.1 wo.2.1 rfl rfl (by decide) (by decide) dX8_holdRow_7 ?_
  obtain ⟨S3, e4, h⟩ := g_let_ex h
  rw [← e4]
  refine z_aload_n cx rfl rfl dX8_holdRow_10 ?_
  refine z_iload_n cx rfl rfl dX8_holdRow_11 ?_
  refine z_if_lt (tgt := 25) cx (by decide) dX8_holdRow_12 (fun c5 => ?_) (fun c5 => ?_)
  · have h := g_t c5 h
    exact q_weak (z_wk_s (z_wk_n (z_wk_n (z_wk_n (z_wk_0))))) (t_X8_holdRow_25 n cx ce o o S3 wo wo h)
  · have h := g_f c5 h
    refine z_iload_n cx rfl rfl dX8_holdRow_15 ?_
    refine z_bipush (v := 60) cx (by decide +kernel) dX8_holdRow_16 ?_
    refine z_icmp_gt (tgt := 25) cx (by decide) dX8_holdRow_18 (fun c6 => ?_) (fun c6 => ?_)
    · have h := g_t c6 h
      exact q_weak (z_wk_s (z_wk_n (z_wk_n (z_wk_n (z_wk_0))))) (t_X8_holdRow_25 n cx ce o o S3 wo wo h)
    · have h := g_f c6 h
      refine z_iload_n cx rfl rfl dX8_holdRow_21 ?_
      refine z_goto (tgt := 26) cx (by decide) dX8_holdRow_22 ?_
      exact q_weak (z_wk_s (z_wk_n (z_wk_n (z_wk_n (z_wk_0))))) (t_X8_holdRow_26 n cx ce o a1 o S3 wo wo h)
theorem c_X8_holdRow {g : z_G} {n : Nat} (o : Nat) (a0 : Int32) (a1 : Int32) (S : z_Stt) {v : Unit} {S' : z_Stt} (wo : wp8 o) (h : f_X8_holdRow n o a0 a1 S = some (v, S')) : z_Ct g M_X8_holdRow 0 [.ref (z_ad g o), .int a0, .int a1] (hp g S) (z_P g (none) S') :=
  z_Ct.of (by decide +kernel) rfl (Nat.le_of_ble_eq_true rfl) (fun K cx ce => q_weak (L' := [some (.ref (z_ad g o)), some (.int a0), some (.int a1), none]) (z_wk_s (z_wk_s (z_wk_s (z_wk_e (z_wk_0))))) (t_X8_holdRow n cx ce o a0 a1 S wo h))
abbrev M_X8_isRow : z_M := (RX8, yX8_isRow, cX8_isRow, 2, some .boolean)
theorem mo_X8_isRow : z_mo M_X8_isRow 1 := ⟨tb_204, tb_54, rfl, ⟨by decide +kernel, by decide +kernel⟩, by decide +kernel, by decide⟩
theorem mv_X8_isRow : z_mv M_X8_isRow := ⟨tb_202, tb_203⟩
def f_X8_isRow (o : Nat) (a0 : Int32) (S : z_Stt) : Option (Bool × z_Stt) :=
  if S.1 (100 * o + 0) = 2 then
    if S.1 (100 * o + 2) = a0 then
      some (true, S)
    else
      some (false, S)
  else
    some (false, S)
set_option maxHeartbeats 4000000 in
set_option maxRecDepth 100000 in
theorem t_X8_isRow {g : z_G} {K : z_K} {v : Bool} {S' : z_Stt} (cx : z_C g M_X8_isRow 0 K) (ce : z_E' g M_X8_isRow (z_P g (some (.int (bI v))) S') K) (o : Nat) (a0 : Int32) (S : z_Stt) (wo : wp8 o) (h : f_X8_isRow o a0 S = some (v, S')) : z_At g M_X8_isRow K 0 [some (.ref (z_ad g o)), some (.int a0)] [] (hp g S) := by
  unfold f_X8_isRow at h
  refine z_aload_n cx rfl rfl dX8_isRow_0 ?_
  refine q_getI (k := o) (n := 100 * o + 0) cx z_cl8 (j := 0) (by decide) tb_132 rfl wo.1 wo.2.1 rfl rfl dX8_isRow_1 ?_
  refine z_iconst (v := 2) cx (by decide +kernel) dX8_isRow_4 ?_
  refine z_icmp_ne (tgt := 20) cx (by decide) dX8_isRow_5 (fun c1 => ?_) (fun c1 => ?_)
  · have h := g_f c1 h
    refine z_iconst (v := 0) cx (by decide +kernel) dX8_isRow_20 ?_
    obtain ⟨rfl, rfl⟩ := g_some h
    exact z_zreturn cx ce rfl (by decide +kernel) ⟨rfl, rfl⟩ dX8_isRow_21
  · have h := g_t c1 h
    refine z_aload_n cx rfl rfl dX8_isRow_8 ?_
    refine q_getI (k := o) (n := 100 * o + 2) cx z_cl8 (j := 2) (by decide) tb_134 rfl wo.1 wo.2.1 rfl rfl dX8_isRow_9 ?_
    refine z_iload_n cx rfl rfl dX8_isRow_12 ?_
    refine z_icmp_ne (tgt := 20) cx (by decide) dX8_isRow_13 (fun c2 => ?_) (fun c2 => ?_)
    · have h := g_f c2 h
      refine z_iconst (v := 0) cx (by decide +kernel) dX8_isRow_20 ?_
      obtain ⟨rfl, rfl⟩ := g_some h
      exact z_zreturn cx ce rfl (by decide +kernel) ⟨rfl, rfl⟩ dX8_isRow_21
    · have h := g_t c2 h
      refine z_iconst (v := 1) cx (by decide +kernel) dX8_isRow_16 ?_
      refine z_goto (tgt := 21) cx (by decide) dX8_isRow_17 ?_
      obtain ⟨rfl, rfl⟩ := g_some h
      exact z_zreturn cx ce rfl (by decide +kernel) ⟨rfl, rfl⟩ dX8_isRow_21
theorem c_X8_isRow {g : z_G} (o : Nat) (a0 : Int32) (S : z_Stt) {v : Bool} {S' : z_Stt} (wo : wp8 o) (h : f_X8_isRow o a0 S = some (v, S')) : z_Ct g M_X8_isRow 0 [.ref (z_ad g o), .int a0] (hp g S) (z_P g (some (.int (bI v))) S') :=
  z_Ct.of (by decide +kernel) rfl (Nat.le_of_ble_eq_true rfl) (fun K cx ce => q_weak (L' := [some (.ref (z_ad g o)), some (.int a0)]) (z_wk_s (z_wk_s (z_wk_0))) (t_X8_isRow cx ce o a0 S wo h))
abbrev M_X8_refusal : z_M := (RX8, yX8_refusal, cX8_refusal, 2, some .int)
theorem mo_X8_refusal : z_mo M_X8_refusal 1 := ⟨tb_785, tb_54, rfl, ⟨by decide +kernel, by decide +kernel⟩, by decide +kernel, by decide⟩
theorem mv_X8_refusal : z_mv M_X8_refusal := ⟨tb_783, tb_784⟩
def f_X8_refusal (o : Nat) (a0 : Int32) (S : z_Stt) : Option (Int32 × z_Stt) :=
  if S.1 (100 * o + 0) = 0 then
    some ((-11), S)
  else
    g_bd (f_X8_isRow o a0 S) fun v2 S3 =>
    if v2 = true then
      some (0, S3)
    else
      some ((-12), S3)
set_option maxHeartbeats 4000000 in
set_option maxRecDepth 100000 in
theorem t_X8_refusal {g : z_G} {K : z_K} {v : Int32} {S' : z_Stt} (cx : z_C g M_X8_refusal 1 K) (ce : z_E' g M_X8_refusal (z_P g (some (.int v)) S') K) (o : Nat) (a0 : Int32) (S : z_Stt) (wo : wp8 o) (h : f_X8_refusal o a0 S = some (v, S')) : z_At g M_X8_refusal K 0 [some (.ref (z_ad g o)), some (.int a0)] [] (hp g S) := by
  unfold f_X8_refusal at h
  refine z_aload_n cx rfl rfl dX8_refusal_0 ?_
  refine q_getI (k := o) (n := 100 * o + 0) cx z_cl8 (j := 0) (by decide) tb_132 rfl wo.1 wo.2.1 rfl rfl dX8_refusal_1 ?_
  refine z_if_ne (tgt := 10) cx (by decide) dX8_refusal_4 (fun c1 => ?_) (fun c1 => ?_)
  · have h := g_f c1 h
    refine z_aload_n cx rfl rfl dX8_refusal_10 ?_
    refine z_iload_n cx rfl rfl dX8_refusal_11 ?_
    obtain ⟨v2, S3, e4, h⟩ := g_bd_ex h
    refine q_cvi (As := [.int a0]) cx mo_X8_isRow mv_X8_isRow z_cl8 rfl tb_786 (by decide) rfl wo.1 wo.2.1 rfl (Nat.le_of_ble_eq_true rfl) dX8_refusal_12 (c_X8_isRow o a0 _ wo e4) ?_
    refine q_ifb_eq (tgt := 22) cx (by decide) dX8_refusal_15 (fun c5 => ?_) (fun c5 => ?_)
    · have h := g_f (Bool.eq_false_iff.mp c5) h
      refine z_bipush (v := (-12)) cx (by decide +kernel) dX8_refusal_22 ?_
      obtain ⟨rfl, rfl⟩ := g_some h
      exact z_ireturn cx ce rfl ⟨rfl, rfl⟩ dX8_refusal_24
    · have h := g_t c5 h
      refine z_iconst (v := 0) cx (by decide +kernel) dX8_refusal_18 ?_
      refine z_goto (tgt := 24) cx (by decide) dX8_refusal_19 ?_
      obtain ⟨rfl, rfl⟩ := g_some h
      exact z_ireturn cx ce rfl ⟨rfl, rfl⟩ dX8_refusal_24
  · have h := g_t c1 h
    refine z_bipush (v := (-11)) cx (by decide +kernel) dX8_refusal_7 ?_
    obtain ⟨rfl, rfl⟩ := g_some h
    exact z_ireturn cx ce rfl ⟨rfl, rfl⟩ dX8_refusal_9
theorem c_X8_refusal {g : z_G} (o : Nat) (a0 : Int32) (S : z_Stt) {v : Int32} {S' : z_Stt} (wo : wp8 o) (h : f_X8_refusal o a0 S = some (v, S')) : z_Ct g M_X8_refusal 1 [.ref (z_ad g o), .int a0] (hp g S) (z_P g (some (.int v)) S') :=
  z_Ct.of (by decide +kernel) rfl (Nat.le_of_ble_eq_true rfl) (fun K cx ce => q_weak (L' := [some (.ref (z_ad g o)), some (.int a0)]) (z_wk_s (z_wk_s (z_wk_0))) (t_X8_refusal cx ce o a0 S wo h))
abbrev M_X8_hasPlaces : z_M := (RX8, yX8_hasPlaces, cX8_hasPlaces, 3, some .boolean)
theorem mo_X8_hasPlaces : z_mo M_X8_hasPlaces 2 := ⟨tb_1169, tb_54, rfl, ⟨by decide +kernel, by decide +kernel⟩, by decide +kernel, by decide⟩
theorem mv_X8_hasPlaces : z_mv M_X8_hasPlaces := ⟨tb_1167, tb_1168⟩
def f_X8_hasPlaces (o : Nat) (a0 : Int32) (a1 : Int32) (S : z_Stt) : Option (Bool × z_Stt) :=
  if a0 < 0 then
    some (false, S)
  else
    if a1 < 0 then
      some (false, S)
    else
      if S.1 (100 * o + 3) < a1 then
        some (false, S)
      else
        if (S.1 (100 * o + 3)) - a1 < a0 then
          some (false, S)
        else
          some (true, S)
set_option maxHeartbeats 4000000 in
set_option maxRecDepth 100000 in
theorem t_X8_hasPlaces {g : z_G} {K : z_K} {v : Bool} {S' : z_Stt} (cx : z_C g M_X8_hasPlaces 0 K) (ce : z_E' g M_X8_hasPlaces (z_P g (some (.int (bI v))) S') K) (o : Nat) (a0 : Int32) (a1 : Int32) (S : z_Stt) (wo : wp8 o) (h : f_X8_hasPlaces o a0 a1 S = some (v, S')) : z_At g M_X8_hasPlaces K 0 [some (.ref (z_ad g o)), some (.int a0), some (.int a1)] [] (hp g S) := by
  unfold f_X8_hasPlaces at h
  refine z_iload_n cx rfl rfl dX8_hasPlaces_0 ?_
  refine z_if_lt (tgt := 30) cx (by decide) dX8_hasPlaces_1 (fun c1 => ?_) (fun c1 => ?_)
  · have h := g_t c1 h
    refine z_iconst (v := 0) cx (by decide +kernel) dX8_hasPlaces_30 ?_
    obtain ⟨rfl, rfl⟩ := g_some h
    exact z_zreturn cx ce rfl (by decide +kernel) ⟨rfl, rfl⟩ dX8_hasPlaces_31
  · have h := g_f c1 h
    refine z_iload_n cx rfl rfl dX8_hasPlaces_4 ?_
    refine z_if_lt (tgt := 30) cx (by decide) dX8_hasPlaces_5 (fun c2 => ?_) (fun c2 => ?_)
    · have h := g_t c2 h
      refine z_iconst (v := 0) cx (by decide +kernel) dX8_hasPlaces_30 ?_
      obtain ⟨rfl, rfl⟩ := g_some h
      exact z_zreturn cx ce rfl (by decide +kernel) ⟨rfl, rfl⟩ dX8_hasPlaces_31
    · have h := g_f c2 h
      refine z_iload_n cx rfl rfl dX8_hasPlaces_8 ?_
      refine z_aload_n cx rfl rfl dX8_hasPlaces_9 ?_
      refine q_getI (k := o) (n := 100 * o + 3) cx z_cl8 (j := 3) (by decide) tb_135 rfl wo.1 wo.2.1 rfl rfl dX8_hasPlaces_10 ?_
      refine z_icmp_gt (tgt := 30) cx (by decide) dX8_hasPlaces_13 (fun c3 => ?_) (fun c3 => ?_)
      · have h := g_t c3 h
        refine z_iconst (v := 0) cx (by decide +kernel) dX8_hasPlaces_30 ?_
        obtain ⟨rfl, rfl⟩ := g_some h
        exact z_zreturn cx ce rfl (by decide +kernel) ⟨rfl, rfl⟩ dX8_hasPlaces_31
      · have h := g_f c3 h
        refine z_iload_n cx rfl rfl dX8_hasPlaces_16 ?_
        refine z_aload_n cx rfl rfl dX8_hasPlaces_17 ?_
        refine q_getI (k := o) (n := 100 * o + 3) cx z_cl8 (j := 3) (by decide) tb_135 rfl wo.1 wo.2.1 rfl rfl dX8_hasPlaces_18 ?_
        refine z_iload_n cx rfl rfl dX8_hasPlaces_21 ?_
        refine z_isub cx dX8_hasPlaces_22 ?_
        refine z_icmp_gt (tgt := 30) cx (by decide) dX8_hasPlaces_23 (fun c4 => ?_) (fun c4 => ?_)
        · have h := g_t c4 h
          refine z_iconst (v := 0) cx (by decide +kernel) dX8_hasPlaces_30 ?_
          obtain ⟨rfl, rfl⟩ := g_some h
          exact z_zreturn cx ce rfl (by decide +kernel) ⟨rfl, rfl⟩ dX8_hasPlaces_31
        · have h := g_f c4 h
          refine z_iconst (v := 1) cx (by decide +kernel) dX8_hasPlaces_26 ?_
          refine z_goto (tgt := 31) cx (by decide) dX8_hasPlaces_27 ?_
          obtain ⟨rfl, rfl⟩ := g_some h
          exact z_zreturn cx ce rfl (by decide +kernel) ⟨rfl, rfl⟩ dX8_hasPlaces_31
theorem c_X8_hasPlaces {g : z_G} (o : Nat) (a0 : Int32) (a1 : Int32) (S : z_Stt) {v : Bool} {S' : z_Stt} (wo : wp8 o) (h : f_X8_hasPlaces o a0 a1 S = some (v, S')) : z_Ct g M_X8_hasPlaces 0 [.ref (z_ad g o), .int a0, .int a1] (hp g S) (z_P g (some (.int (bI v))) S') :=
  z_Ct.of (by decide +kernel) rfl (Nat.le_of_ble_eq_true rfl) (fun K cx ce => q_weak (L' := [some (.ref (z_ad g o)), some (.int a0), some (.int a1)]) (z_wk_s (z_wk_s (z_wk_s (z_wk_0)))) (t_X8_hasPlaces cx ce o a0 a1 S wo h))
abbrev M_X8_refusalAt : z_M := (RX8, yX8_refusalAt, cX8_refusalAt, 2, some .int)
theorem mo_X8_refusalAt : z_mo M_X8_refusalAt 1 := ⟨tb_1165, tb_54, rfl, ⟨by decide +kernel, by decide +kernel⟩, by decide +kernel, by decide⟩
theorem mv_X8_refusalAt : z_mv M_X8_refusalAt := ⟨tb_1163, tb_1164⟩
def f_X8_refusalAt (o : Nat) (a0 : Int32) (S : z_Stt) : Option (Int32 × z_Stt) :=
  if S.1 (100 * o + 0) = 0 then
    some ((-11), S)
  else
    if S.1 (100 * o + 0) = 2 then
      g_bd (f_X8_hasPlaces o a0 1 S) fun v3 S4 =>
      if v3 = true then
        some (0, S4)
      else
        some ((-13), S4)
    else
      some ((-12), S)
set_option maxHeartbeats 4000000 in
set_option maxRecDepth 100000 in
theorem t_X8_refusalAt {g : z_G} {K : z_K} {v : Int32} {S' : z_Stt} (cx : z_C g M_X8_refusalAt 1 K) (ce : z_E' g M_X8_refusalAt (z_P g (some (.int v)) S') K) (o : Nat) (a0 : Int32) (S : z_Stt) (wo : wp8 o) (h : f_X8_refusalAt o a0 S = some (v, S')) : z_At g M_X8_refusalAt K 0 [some (.ref (z_ad g o)), some (.int a0)] [] (hp g S) := by
  unfold f_X8_refusalAt at h
  refine z_aload_n cx rfl rfl dX8_refusalAt_0 ?_
  refine q_getI (k := o) (n := 100 * o + 0) cx z_cl8 (j := 0) (by decide) tb_132 rfl wo.1 wo.2.1 rfl rfl dX8_refusalAt_1 ?_
  refine z_if_ne (tgt := 10) cx (by decide) dX8_refusalAt_4 (fun c1 => ?_) (fun c1 => ?_)
  · have h := g_f c1 h
    refine z_aload_n cx rfl rfl dX8_refusalAt_10 ?_
    refine q_getI (k := o) (n := 100 * o + 0) cx z_cl8 (j := 0) (by decide) tb_132 rfl wo.1 wo.2.1 rfl rfl dX8_refusalAt_11 ?_
    refine z_iconst (v := 2) cx (by decide +kernel) dX8_refusalAt_14 ?_
    refine z_icmp_eq (tgt := 21) cx (by decide) dX8_refusalAt_15 (fun c2 => ?_) (fun c2 => ?_)
    · have h := g_t c2 h
      refine z_aload_n cx rfl rfl dX8_refusalAt_21 ?_
      refine z_iload_n cx rfl rfl dX8_refusalAt_22 ?_
      refine z_iconst (v := 1) cx (by decide +kernel) dX8_refusalAt_23 ?_
      obtain ⟨v3, S4, e5, h⟩ := g_bd_ex h
      refine q_cvi (As := [.int a0, .int 1]) cx mo_X8_hasPlaces mv_X8_hasPlaces z_cl8 rfl tb_1166 (by decide) rfl wo.1 wo.2.1 rfl (Nat.le_of_ble_eq_true rfl) dX8_refusalAt_24 (c_X8_hasPlaces o a0 1 _ wo e5) ?_
      refine q_ifb_eq (tgt := 34) cx (by decide) dX8_refusalAt_27 (fun c6 => ?_) (fun c6 => ?_)
      · have h := g_f (Bool.eq_false_iff.mp c6) h
        refine z_bipush (v := (-13)) cx (by decide +kernel) dX8_refusalAt_34 ?_
        obtain ⟨rfl, rfl⟩ := g_some h
        exact z_ireturn cx ce rfl ⟨rfl, rfl⟩ dX8_refusalAt_36
      · have h := g_t c6 h
        refine z_iconst (v := 0) cx (by decide +kernel) dX8_refusalAt_30 ?_
        refine z_goto (tgt := 36) cx (by decide) dX8_refusalAt_31 ?_
        obtain ⟨rfl, rfl⟩ := g_some h
        exact z_ireturn cx ce rfl ⟨rfl, rfl⟩ dX8_refusalAt_36
    · have h := g_f c2 h
      refine z_bipush (v := (-12)) cx (by decide +kernel) dX8_refusalAt_18 ?_
      obtain ⟨rfl, rfl⟩ := g_some h
      exact z_ireturn cx ce rfl ⟨rfl, rfl⟩ dX8_refusalAt_20
  · have h := g_t c1 h
    refine z_bipush (v := (-11)) cx (by decide +kernel) dX8_refusalAt_7 ?_
    obtain ⟨rfl, rfl⟩ := g_some h
    exact z_ireturn cx ce rfl ⟨rfl, rfl⟩ dX8_refusalAt_9
theorem c_X8_refusalAt {g : z_G} (o : Nat) (a0 : Int32) (S : z_Stt) {v : Int32} {S' : z_Stt} (wo : wp8 o) (h : f_X8_refusalAt o a0 S = some (v, S')) : z_Ct g M_X8_refusalAt 1 [.ref (z_ad g o), .int a0] (hp g S) (z_P g (some (.int v)) S') :=
  z_Ct.of (by decide +kernel) rfl (Nat.le_of_ble_eq_true rfl) (fun K cx ce => q_weak (L' := [some (.ref (z_ad g o)), some (.int a0)]) (z_wk_s (z_wk_s (z_wk_0))) (t_X8_refusalAt cx ce o a0 S wo h))
abbrev M_X8_at : z_M := (RX8, yX8_at, cX8_at, 2, some .long)
theorem mo_X8_at : z_mo M_X8_at 1 := ⟨tb_214, tb_54, rfl, ⟨by decide +kernel, by decide +kernel⟩, by decide +kernel, by decide⟩
theorem mv_X8_at : z_mv M_X8_at := ⟨tb_212, tb_213⟩
def f_X8_at (o : Nat) (a0 : Int32) (S : z_Stt) : Option (Int64 × z_Stt) :=
  if a0 < 0 then
    some (0, S)
  else
    if 60 ≤ a0 then
      some (0, S)
    else
      if ¬ (a0 < 0 ∨ 60 ≤ a0.toNatClampNeg) then
        some (S.2.2.2.1 (o + 1) a0.toNatClampNeg, S)
      else none
set_option maxHeartbeats 4000000 in
set_option maxRecDepth 100000 in
theorem t_X8_at {g : z_G} {K : z_K} {v : Int64} {S' : z_Stt} (cx : z_C g M_X8_at 0 K) (ce : z_E' g M_X8_at (z_P g (some (.long v)) S') K) (o : Nat) (a0 : Int32) (S : z_Stt) (wo : wp8 o) (h : f_X8_at o a0 S = some (v, S')) : z_At g M_X8_at K 0 [some (.ref (z_ad g o)), some (.int a0)] [] (hp g S) := by
  unfold f_X8_at at h
  refine z_iload_n cx rfl rfl dX8_at_0 ?_
  refine z_if_lt (tgt := 19) cx (by decide) dX8_at_1 (fun c1 => ?_) (fun c1 => ?_)
  · have h := g_t c1 h
    refine z_lconst (v := 0) cx (by decide +kernel) dX8_at_19 ?_
    obtain ⟨rfl, rfl⟩ := g_some h
    exact z_lreturn cx ce rfl ⟨rfl, rfl⟩ dX8_at_20
  · have h := g_f c1 h
    refine z_iload_n cx rfl rfl dX8_at_4 ?_
    refine z_bipush (v := 60) cx (by decide +kernel) dX8_at_5 ?_
    refine z_icmp_ge (tgt := 19) cx (by decide) dX8_at_7 (fun c2 => ?_) (fun c2 => ?_)
    · have h := g_t c2 h
      refine z_lconst (v := 0) cx (by decide +kernel) dX8_at_19 ?_
      obtain ⟨rfl, rfl⟩ := g_some h
      exact z_lreturn cx ce rfl ⟨rfl, rfl⟩ dX8_at_20
    · have h := g_f c2 h
      refine z_aload_n cx rfl rfl dX8_at_10 ?_
      refine q_getF (k := o) (n := o + 1) (r := 1) cx z_cl8 (j := 4) (by decide) tb_136 rfl wo.1 wo.2.1 rfl rfl dX8_at_11 ?_
      refine z_iload_n cx rfl rfl dX8_at_14 ?_
      obtain ⟨c3, h⟩ := g_if h
      refine q_lald cx wo.2.2.1 (wo.2.2.2) c3 dX8_at_15 ?_
      refine z_goto (tgt := 20) cx (by decide) dX8_at_16 ?_
      obtain ⟨rfl, rfl⟩ := g_some h
      exact z_lreturn cx ce rfl ⟨rfl, rfl⟩ dX8_at_20
theorem c_X8_at {g : z_G} (o : Nat) (a0 : Int32) (S : z_Stt) {v : Int64} {S' : z_Stt} (wo : wp8 o) (h : f_X8_at o a0 S = some (v, S')) : z_Ct g M_X8_at 0 [.ref (z_ad g o), .int a0] (hp g S) (z_P g (some (.long v)) S') :=
  z_Ct.of (by decide +kernel) rfl (Nat.le_of_ble_eq_true rfl) (fun K cx ce => q_weak (L' := [some (.ref (z_ad g o)), some (.int a0)]) (z_wk_s (z_wk_s (z_wk_0))) (t_X8_at cx ce o a0 S wo h))
abbrev M_X8_lowestBits : z_M := (RX8, yX8_lowestBits, cX8_lowestBits, 3, some .long)
theorem mo_X8_lowestBits : z_mo M_X8_lowestBits 1 := ⟨tb_1177, tb_54, rfl, ⟨by decide +kernel, by decide +kernel⟩, by decide +kernel, by decide⟩
theorem mv_X8_lowestBits : z_mv M_X8_lowestBits := ⟨tb_1175, tb_1176⟩
def f_X8_lowestBits (o : Nat) (a0 : Int64) (S : z_Stt) : Option (Int64 × z_Stt) :=
  if S.1 (100 * o + 2) = 0 then
    some (Int32.toInt64 (Int8.toInt32 (Int32.toInt8 (Int64.toInt32 a0))), S)
  else if S.1 (100 * o + 2) = 1 then
    some (Int32.toInt64 (Int16.toInt32 (Int32.toInt16 (Int64.toInt32 a0))), S)
  else if S.1 (100 * o + 2) = 2 then
    some (Int32.toInt64 (Int64.toInt32 a0), S)
  else if S.1 (100 * o + 2) = 3 then
    some (a0, S)
  else 
    if lg_cmp a0 0 = 0 then
      some (0, S)
    else
      some (1, S)
set_option maxHeartbeats 4000000 in
set_option maxRecDepth 100000 in
theorem t_X8_lowestBits {g : z_G} {K : z_K} {v : Int64} {S' : z_Stt} (cx : z_C g M_X8_lowestBits 0 K) (ce : z_E' g M_X8_lowestBits (z_P g (some (.long v)) S') K) (o : Nat) (a0 : Int64) (S : z_Stt) (wo : wp8 o) (h : f_X8_lowestBits o a0 S = some (v, S')) : z_At g M_X8_lowestBits K 0 [some (.ref (z_ad g o)), some (.long a0), none] [] (hp g S) := by
  unfold f_X8_lowestBits at h
  refine z_aload_n cx rfl rfl dX8_lowestBits_0 ?_
  refine q_getI (k := o) (n := 100 * o + 2) cx z_cl8 (j := 2) (by decide) tb_134 rfl wo.1 wo.2.1 rfl rfl dX8_lowestBits_1 ?_
  by_cases c1 : S.1 (100 * o + 2) = 0
  · have h := g_t c1 h
    refine z_tableIn (tgt := 36) (off := 32) cx (by rw [c1]; decide +kernel) (by rw [c1]; decide +kernel) (by rw [c1]; decide +kernel) (by decide) dX8_lowestBits_4 ?_
    refine z_lload_n cx rfl rfl dX8_lowestBits_36 ?_
    refine z_l2i cx dX8_lowestBits_37 ?_
    refine z_i2b cx dX8_lowestBits_38 ?_
    refine z_i2l cx dX8_lowestBits_39 ?_
    obtain ⟨rfl, rfl⟩ := g_some h
    exact z_lreturn cx ce rfl ⟨rfl, rfl⟩ dX8_lowestBits_40
  have h := g_f c1 h
  by_cases c2 : S.1 (100 * o + 2) = 1
  · have h := g_t c2 h
    refine z_tableIn (tgt := 41) (off := 37) cx (by rw [c2]; decide +kernel) (by rw [c2]; decide +kernel) (by rw [c2]; decide +kernel) (by decide) dX8_lowestBits_4 ?_
    refine z_lload_n cx rfl rfl dX8_lowestBits_41 ?_
    refine z_l2i cx dX8_lowestBits_42 ?_
    refine z_i2s cx dX8_lowestBits_43 ?_
    refine z_i2l cx dX8_lowestBits_44 ?_
    obtain ⟨rfl, rfl⟩ := g_some h
    exact z_lreturn cx ce rfl ⟨rfl, rfl⟩ dX8_lowestBits_45
  have h := g_f c2 h
  by_cases c3 : S.1 (100 * o + 2) = 2
  · have h := g_t c3 h
    refine z_tableIn (tgt := 46) (off := 42) cx (by rw [c3]; decide +kernel) (by rw [c3]; decide +kernel) (by rw [c3]; decide +kernel) (by decide) dX8_lowestBits_4 ?_
    refine z_lload_n cx rfl rfl dX8_lowestBits_46 ?_
    refine z_l2i cx dX8_lowestBits_47 ?_
    refine z_i2l cx dX8_lowestBits_48 ?_
    obtain ⟨rfl, rfl⟩ := g_some h
    exact z_lreturn cx ce rfl ⟨rfl, rfl⟩ dX8_lowestBits_49
  have h := g_f c3 h
  by_cases c4 : S.1 (100 * o + 2) = 3
  · have h := g_t c4 h
    refine z_tableIn (tgt := 50) (off := 46) cx (by rw [c4]; decide +kernel) (by rw [c4]; decide +kernel) (by rw [c4]; decide +kernel) (by decide) dX8_lowestBits_4 ?_
    refine z_lload_n cx rfl rfl dX8_lowestBits_50 ?_
    obtain ⟨rfl, rfl⟩ := g_some h
    exact z_lreturn cx ce rfl ⟨rfl, rfl⟩ dX8_lowestBits_51
  have h := g_f c4 h
  refine q_tableD (tgt := 52) (lo := 0) (hi := 3) cx [0, 1, 2, 3] (by decide +kernel) (by intro a ha; simp only [List.mem_cons, List.not_mem_nil, or_false] at ha; rcases ha with rfl | rfl | rfl | rfl <;> assumption) (by decide) dX8_lowestBits_4 ?_
  refine z_lload_n cx rfl rfl dX8_lowestBits_52 ?_
  refine z_lconst (v := 0) cx (by decide +kernel) dX8_lowestBits_53 ?_
  refine z_lcmp cx dX8_lowestBits_54 ?_
  refine z_if_eq (tgt := 62) cx (by decide) dX8_lowestBits_55 (fun c5 => ?_) (fun c5 => ?_)
  · have h := g_t c5 h
    refine z_lconst (v := 0) cx (by decide +kernel) dX8_lowestBits_62 ?_
    obtain ⟨rfl, rfl⟩ := g_some h
    exact z_lreturn cx ce rfl ⟨rfl, rfl⟩ dX8_lowestBits_63
  · have h := g_f c5 h
    refine z_lconst (v := 1) cx (by decide +kernel) dX8_lowestBits_58 ?_
    refine z_goto (tgt := 63) cx (by decide) dX8_lowestBits_59 ?_
    obtain ⟨rfl, rfl⟩ := g_some h
    exact z_lreturn cx ce rfl ⟨rfl, rfl⟩ dX8_lowestBits_63
theorem c_X8_lowestBits {g : z_G} (o : Nat) (a0 : Int64) (S : z_Stt) {v : Int64} {S' : z_Stt} (wo : wp8 o) (h : f_X8_lowestBits o a0 S = some (v, S')) : z_Ct g M_X8_lowestBits 0 [.ref (z_ad g o), .long a0] (hp g S) (z_P g (some (.long v)) S') :=
  z_Ct.of (by decide +kernel) rfl (Nat.le_of_ble_eq_true rfl) (fun K cx ce => q_weak (L' := [some (.ref (z_ad g o)), some (.long a0), none]) (z_wk_s (z_wk_s (z_wk_n (z_wk_0)))) (t_X8_lowestBits cx ce o a0 S wo h))
abbrev M_X8_become : z_M := (RX8, yX8_become, cX8_become, 4, none)
theorem mo_X8_become : z_mo M_X8_become 2 := ⟨tb_1173, tb_54, rfl, ⟨by decide +kernel, by decide +kernel⟩, by decide +kernel, by decide⟩
theorem mv_X8_become : z_mv M_X8_become := ⟨tb_1171, tb_1172⟩
def f_X8_become (o : Nat) (a0 : Int32) (a1 : Int64) (S : z_Stt) : Option (Unit × z_Stt) :=
  if a0 < 0 then
    some ((), S)
  else
    if 60 ≤ a0 then
      some ((), S)
    else
      g_bd (f_X8_lowestBits o a1 S) fun v3 S4 =>
      if ¬ (a0 < 0 ∨ 60 ≤ a0.toNatClampNeg) then
        g_let (sE S4 (o + 1) (vp_updL (S4.2.2.2.1 (o + 1)) a0.toNatClampNeg v3)) fun S7 =>
        some ((), S7)
      else none
set_option maxHeartbeats 4000000 in
set_option maxRecDepth 100000 in
theorem t_X8_become {g : z_G} {K : z_K} {v : Unit} {S' : z_Stt} (cx : z_C g M_X8_become 1 K) (ce : z_E' g M_X8_become (z_P g (none) S') K) (o : Nat) (a0 : Int32) (a1 : Int64) (S : z_Stt) (wo : wp8 o) (h : f_X8_become o a0 a1 S = some (v, S')) : z_At g M_X8_become K 0 [some (.ref (z_ad g o)), some (.int a0), some (.long a1), none] [] (hp g S) := by
  unfold f_X8_become at h
  refine z_iload_n cx rfl rfl dX8_become_0 ?_
  refine z_if_lt (tgt := 21) cx (by decide) dX8_become_1 (fun c1 => ?_) (fun c1 => ?_)
  · have h := g_t c1 h
    obtain ⟨rfl, rfl⟩ := g_some h
    exact z_return cx ce rfl ⟨rfl, rfl⟩ dX8_become_21
  · have h := g_f c1 h
    refine z_iload_n cx rfl rfl dX8_become_4 ?_
    refine z_bipush (v := 60) cx (by decide +kernel) dX8_become_5 ?_
    refine z_icmp_ge (tgt := 21) cx (by decide) dX8_become_7 (fun c2 => ?_) (fun c2 => ?_)
    · have h := g_t c2 h
      obtain ⟨rfl, rfl⟩ := g_some h
      exact z_return cx ce rfl ⟨rfl, rfl⟩ dX8_become_21
    · have h := g_f c2 h
      refine z_aload_n cx rfl rfl dX8_become_10 ?_
      refine q_getF (k := o) (n := o + 1) (r := 1) cx z_cl8 (j := 4) (by decide) tb_136 rfl wo.1 wo.2.1 rfl rfl dX8_become_11 ?_
      refine z_iload_n cx rfl rfl dX8_become_14 ?_
      refine z_aload_n cx rfl rfl dX8_become_15 ?_
      refine z_lload_n cx rfl rfl dX8_become_16 ?_
      obtain ⟨v3, S4, e5, h⟩ := g_bd_ex h
      refine q_cvl (As := [.long a1]) cx mo_X8_lowestBits mv_X8_lowestBits z_cl8 rfl tb_1174 (by decide) rfl wo.1 wo.2.1 rfl (Nat.le_of_ble_eq_true rfl) dX8_become_17 (c_X8_lowestBits o a1 _ wo e5) ?_
      obtain ⟨c6, h⟩ := g_if h
      refine q_last cx wo.2.2.1 (wo.2.2.2) c6 dX8_become_20 ?_
      obtain ⟨S7, e8, h⟩ := g_let_ex h
      rw [← e8]
      obtain ⟨rfl, rfl⟩ := g_some h
      exact z_return cx ce rfl ⟨rfl, rfl⟩ dX8_become_21
theorem c_X8_become {g : z_G} (o : Nat) (a0 : Int32) (a1 : Int64) (S : z_Stt) {v : Unit} {S' : z_Stt} (wo : wp8 o) (h : f_X8_become o a0 a1 S = some (v, S')) : z_Ct g M_X8_become 1 [.ref (z_ad g o), .int a0, .long a1] (hp g S) (z_P g (none) S') :=
  z_Ct.of (by decide +kernel) rfl (Nat.le_of_ble_eq_true rfl) (fun K cx ce => q_weak (L' := [some (.ref (z_ad g o)), some (.int a0), some (.long a1), none]) (z_wk_s (z_wk_s (z_wk_s (z_wk_n (z_wk_0))))) (t_X8_become cx ce o a0 a1 S wo h))
