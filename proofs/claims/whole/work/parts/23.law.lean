abbrev M_X6_append : z_M := (RX6, yX6_append, cX6_append, 2, some .int)
theorem mo_X6_append : z_mo M_X6_append 1 := ⟨tb_321, tb_29, rfl, ⟨by decide +kernel, by decide +kernel⟩, by decide +kernel, by decide⟩
theorem mv_X6_append : z_mv M_X6_append := ⟨tb_319, tb_320⟩
def f_X6_append_29 (S : z_Stt) : Option (Int32 × z_Stt) :=
  some (S.1 1301, S)
set_option maxHeartbeats 4000000 in
set_option maxRecDepth 100000 in
theorem t_X6_append_29 {g : z_G} {K : z_K} {v : Int32} {S' : z_Stt} (cx : z_C g M_X6_append 0 K) (ce : z_E' g M_X6_append (z_P g (some (.int v)) S') K) (S : z_Stt) (h : f_X6_append_29 S = some (v, S')) : z_At g M_X6_append K 29 [some (.ref (z_ad g 13)), none] [] (hp g S) := by
  unfold f_X6_append_29 at h
  refine z_aload_n cx rfl rfl dX6_append_29 ?_
  refine q_getI (k := 13) (n := 1301) cx z_cl6 (j := 1) (by decide) tb_84 rfl (by decide) rfl rfl rfl dX6_append_30 ?_
  obtain ⟨rfl, rfl⟩ := g_some h
  exact z_ireturn cx ce rfl ⟨rfl, rfl⟩ dX6_append_33
def f_X6_append (a0 : Int32) (S : z_Stt) : Option (Int32 × z_Stt) :=
  if 120 ≤ S.1 1301 then
    f_X6_append_29 S
  else
    if S.2.2.2.2 1300 = 14 ∨ S.2.2.2.2 1300 = 15 then
      if ¬ (S.1 1301 < 0 ∨ 120 ≤ (S.1 1301).toNatClampNeg) then
        g_let (sA S (S.2.2.2.2 1300) (upd (S.2.2.1 (S.2.2.2.2 1300)) (S.1 1301).toNatClampNeg a0)) fun S4 =>
        g_let (sI S4 1301 ((S4.1 1301) + 1)) fun S6 =>
        f_X6_append_29 S6
      else none
    else none
set_option maxHeartbeats 4000000 in
set_option maxRecDepth 100000 in
theorem t_X6_append {g : z_G} {K : z_K} {v : Int32} {S' : z_Stt} (cx : z_C g M_X6_append 0 K) (ce : z_E' g M_X6_append (z_P g (some (.int v)) S') K) (a0 : Int32) (S : z_Stt) (h : f_X6_append a0 S = some (v, S')) : z_At g M_X6_append K 0 [some (.ref (z_ad g 13)), some (.int a0)] [] (hp g S) := by
  unfold f_X6_append at h
  refine z_aload_n cx rfl rfl dX6_append_0 ?_
  refine q_getI (k := 13) (n := 1301) cx z_cl6 (j := 1) (by decide) tb_84 rfl (by decide) rfl rfl rfl dX6_append_1 ?_
  refine z_bipush (v := 120) cx (by decide +kernel) dX6_append_4 ?_
  refine z_icmp_ge (tgt := 29) cx (by decide) dX6_append_6 (fun c1 => ?_) (fun c1 => ?_)
  · have h := g_t c1 h
    exact q_weak (z_wk_s (z_wk_n (z_wk_0))) (t_X6_append_29 cx ce S h)
  · have h := g_f c1 h
    refine z_aload_n cx rfl rfl dX6_append_9 ?_
    refine q_getR (k := 13) (n := 1300) cx z_cl6 (j := 0) (by decide) tb_83 rfl (by decide) rfl rfl rfl dX6_append_10 ?_
    refine z_aload_n cx rfl rfl dX6_append_13 ?_
    refine q_getI (k := 13) (n := 1301) cx z_cl6 (j := 1) (by decide) tb_84 rfl (by decide) rfl rfl rfl dX6_append_14 ?_
    refine z_iload_n cx rfl rfl dX6_append_17 ?_
    obtain ⟨c2, h⟩ := g_if h
    obtain ⟨c3, h⟩ := g_if h
    refine q_iast cx (ly_of c2).1 (ly_of c2).2 c3 dX6_append_18 ?_
    obtain ⟨S4, e5, h⟩ := g_let_ex h
    rw [← e5]
    refine z_aload_n cx rfl rfl dX6_append_19 ?_
    refine z_dup cx rfl dX6_append_20 ?_
    refine q_getI (k := 13) (n := 1301) cx z_cl6 (j := 1) (by decide) tb_84 rfl (by decide) rfl rfl rfl dX6_append_21 ?_
    refine z_iconst (v := 1) cx (by decide +kernel) dX6_append_24 ?_
    refine z_iadd cx dX6_append_25 ?_
    refine q_putI (k := 13) (n := 1301) cx z_cl6 (j := 1) (by decide) tb_84 rfl rfl rfl (by decide) rfl rfl rfl (by decide) (by decide) dX6_append_26 ?_
    obtain ⟨S6, e7, h⟩ := g_let_ex h
    rw [← e7]
    exact q_weak (z_wk_s (z_wk_n (z_wk_0))) (t_X6_append_29 cx ce S6 h)
theorem c_X6_append {g : z_G} (a0 : Int32) (S : z_Stt) {v : Int32} {S' : z_Stt} (h : f_X6_append a0 S = some (v, S')) : z_Ct g M_X6_append 0 [.ref (z_ad g 13), .int a0] (hp g S) (z_P g (some (.int v)) S') :=
  z_Ct.of (by decide +kernel) rfl (Nat.le_of_ble_eq_true rfl) (fun K cx ce => q_weak (L' := [some (.ref (z_ad g 13)), some (.int a0)]) (z_wk_s (z_wk_s (z_wk_0))) (t_X6_append cx ce a0 S h))
abbrev M_X6_letter : z_M := (RX6, yX6_letter, cX6_letter, 1, some .int)
theorem mo_X6_letter : z_mo M_X6_letter 0 := ⟨tb_347, tb_29, rfl, ⟨by decide +kernel, by decide +kernel⟩, by decide +kernel, by decide⟩
theorem mv_X6_letter : z_mv M_X6_letter := ⟨tb_345, tb_346⟩
def f_X6_letter (S : z_Stt) : Option (Int32 × z_Stt) :=
  if 0 ≤ S.1 1306 then
    some ((-1), S)
  else
    if S.1 1305 < 0 then
      some ((-1), S)
    else
      if S.1 1303 ≤ S.1 1305 then
        some ((-1), S)
      else
        if 120 ≤ S.1 1305 then
          some ((-1), S)
        else
          if S.2.2.2.2 1302 = 14 ∨ S.2.2.2.2 1302 = 15 then
            if ¬ (S.1 1305 < 0 ∨ 120 ≤ (S.1 1305).toNatClampNeg) then
              some (S.2.2.1 (S.2.2.2.2 1302) (S.1 1305).toNatClampNeg, S)
            else none
          else none
set_option maxHeartbeats 4000000 in
set_option maxRecDepth 100000 in
theorem t_X6_letter {g : z_G} {K : z_K} {v : Int32} {S' : z_Stt} (cx : z_C g M_X6_letter 0 K) (ce : z_E' g M_X6_letter (z_P g (some (.int v)) S') K) (S : z_Stt) (h : f_X6_letter S = some (v, S')) : z_At g M_X6_letter K 0 [some (.ref (z_ad g 13))] [] (hp g S) := by
  unfold f_X6_letter at h
  refine z_aload_n cx rfl rfl dX6_letter_0 ?_
  refine q_getI (k := 13) (n := 1306) cx z_cl6 (j := 6) (by decide) tb_89 rfl (by decide) rfl rfl rfl dX6_letter_1 ?_
  refine z_if_ge (tgt := 46) cx (by decide) dX6_letter_4 (fun c1 => ?_) (fun c1 => ?_)
  · have h := g_t c1 h
    refine z_iconst (v := (-1)) cx (by decide +kernel) dX6_letter_46 ?_
    obtain ⟨rfl, rfl⟩ := g_some h
    exact z_ireturn cx ce rfl ⟨rfl, rfl⟩ dX6_letter_47
  · have h := g_f c1 h
    refine z_aload_n cx rfl rfl dX6_letter_7 ?_
    refine q_getI (k := 13) (n := 1305) cx z_cl6 (j := 5) (by decide) tb_88 rfl (by decide) rfl rfl rfl dX6_letter_8 ?_
    refine z_if_lt (tgt := 46) cx (by decide) dX6_letter_11 (fun c2 => ?_) (fun c2 => ?_)
    · have h := g_t c2 h
      refine z_iconst (v := (-1)) cx (by decide +kernel) dX6_letter_46 ?_
      obtain ⟨rfl, rfl⟩ := g_some h
      exact z_ireturn cx ce rfl ⟨rfl, rfl⟩ dX6_letter_47
    · have h := g_f c2 h
      refine z_aload_n cx rfl rfl dX6_letter_14 ?_
      refine q_getI (k := 13) (n := 1305) cx z_cl6 (j := 5) (by decide) tb_88 rfl (by decide) rfl rfl rfl dX6_letter_15 ?_
      refine z_aload_n cx rfl rfl dX6_letter_18 ?_
      refine q_getI (k := 13) (n := 1303) cx z_cl6 (j := 3) (by decide) tb_86 rfl (by decide) rfl rfl rfl dX6_letter_19 ?_
      refine z_icmp_ge (tgt := 46) cx (by decide) dX6_letter_22 (fun c3 => ?_) (fun c3 => ?_)
      · have h := g_t c3 h
        refine z_iconst (v := (-1)) cx (by decide +kernel) dX6_letter_46 ?_
        obtain ⟨rfl, rfl⟩ := g_some h
        exact z_ireturn cx ce rfl ⟨rfl, rfl⟩ dX6_letter_47
      · have h := g_f c3 h
        refine z_aload_n cx rfl rfl dX6_letter_25 ?_
        refine q_getI (k := 13) (n := 1305) cx z_cl6 (j := 5) (by decide) tb_88 rfl (by decide) rfl rfl rfl dX6_letter_26 ?_
        refine z_bipush (v := 120) cx (by decide +kernel) dX6_letter_29 ?_
        refine z_icmp_ge (tgt := 46) cx (by decide) dX6_letter_31 (fun c4 => ?_) (fun c4 => ?_)
        · have h := g_t c4 h
          refine z_iconst (v := (-1)) cx (by decide +kernel) dX6_letter_46 ?_
          obtain ⟨rfl, rfl⟩ := g_some h
          exact z_ireturn cx ce rfl ⟨rfl, rfl⟩ dX6_letter_47
        · have h := g_f c4 h
          refine z_aload_n cx rfl rfl dX6_letter_34 ?_
          refine q_getR (k := 13) (n := 1302) cx z_cl6 (j := 2) (by decide) tb_85 rfl (by decide) rfl rfl rfl dX6_letter_35 ?_
          refine z_aload_n cx rfl rfl dX6_letter_38 ?_
          refine q_getI (k := 13) (n := 1305) cx z_cl6 (j := 5) (by decide) tb_88 rfl (by decide) rfl rfl rfl dX6_letter_39 ?_
          obtain ⟨c5, h⟩ := g_if h
          obtain ⟨c6, h⟩ := g_if h
          refine q_iald cx (ly_of c5).1 (ly_of c5).2 c6 dX6_letter_42 ?_
          refine z_goto (tgt := 47) cx (by decide) dX6_letter_43 ?_
          obtain ⟨rfl, rfl⟩ := g_some h
          exact z_ireturn cx ce rfl ⟨rfl, rfl⟩ dX6_letter_47
theorem c_X6_letter {g : z_G} (S : z_Stt) {v : Int32} {S' : z_Stt} (h : f_X6_letter S = some (v, S')) : z_Ct g M_X6_letter 0 [.ref (z_ad g 13)] (hp g S) (z_P g (some (.int v)) S') :=
  z_Ct.of (by decide +kernel) rfl (Nat.le_of_ble_eq_true rfl) (fun K cx ce => q_weak (L' := [some (.ref (z_ad g 13))]) (z_wk_s (z_wk_0)) (t_X6_letter cx ce S h))
abbrev M_X6_takes : z_M := (RX6, yX6_takes, cX6_takes, 2, some .boolean)
theorem mo_X6_takes : z_mo M_X6_takes 1 := ⟨tb_343, tb_29, rfl, ⟨by decide +kernel, by decide +kernel⟩, by decide +kernel, by decide⟩
theorem mv_X6_takes : z_mv M_X6_takes := ⟨tb_341, tb_342⟩
def f_X6_takes (a0 : Int32) (S : z_Stt) : Option (Bool × z_Stt) :=
  g_bd (f_X6_letter S) fun v1 S2 =>
  if v1 = a0 then
    g_let (sI S2 1305 ((S2.1 1305) + 1)) fun S5 =>
    some (true, S5)
  else
    some (false, S2)
set_option maxHeartbeats 4000000 in
set_option maxRecDepth 100000 in
theorem t_X6_takes {g : z_G} {K : z_K} {v : Bool} {S' : z_Stt} (cx : z_C g M_X6_takes 1 K) (ce : z_E' g M_X6_takes (z_P g (some (.int (bI v))) S') K) (a0 : Int32) (S : z_Stt) (h : f_X6_takes a0 S = some (v, S')) : z_At g M_X6_takes K 0 [some (.ref (z_ad g 13)), some (.int a0)] [] (hp g S) := by
  unfold f_X6_takes at h
  refine z_aload_n cx rfl rfl dX6_takes_0 ?_
  obtain ⟨v1, S2, e3, h⟩ := g_bd_ex h
  refine q_cvi (As := []) cx mo_X6_letter mv_X6_letter z_cl6 rfl tb_344 (by decide) rfl (by decide) rfl rfl (Nat.le_of_ble_eq_true rfl) dX6_takes_1 (c_X6_letter  _ e3) ?_
  refine z_iload_n cx rfl rfl dX6_takes_4 ?_
  refine z_icmp_eq (tgt := 10) cx (by decide) dX6_takes_5 (fun c4 => ?_) (fun c4 => ?_)
  · have h := g_t c4 h
    refine z_aload_n cx rfl rfl dX6_takes_10 ?_
    refine z_dup cx rfl dX6_takes_11 ?_
    refine q_getI (k := 13) (n := 1305) cx z_cl6 (j := 5) (by decide) tb_88 rfl (by decide) rfl rfl rfl dX6_takes_12 ?_
    refine z_iconst (v := 1) cx (by decide +kernel) dX6_takes_15 ?_
    refine z_iadd cx dX6_takes_16 ?_
    refine q_putI (k := 13) (n := 1305) cx z_cl6 (j := 5) (by decide) tb_88 rfl rfl rfl (by decide) rfl rfl rfl (by decide) (by decide) dX6_takes_17 ?_
    obtain ⟨S5, e6, h⟩ := g_let_ex h
    rw [← e6]
    refine z_iconst (v := 1) cx (by decide +kernel) dX6_takes_20 ?_
    obtain ⟨rfl, rfl⟩ := g_some h
    exact z_zreturn cx ce rfl (by decide +kernel) ⟨rfl, rfl⟩ dX6_takes_21
  · have h := g_f c4 h
    refine z_iconst (v := 0) cx (by decide +kernel) dX6_takes_8 ?_
    obtain ⟨rfl, rfl⟩ := g_some h
    exact z_zreturn cx ce rfl (by decide +kernel) ⟨rfl, rfl⟩ dX6_takes_9
theorem c_X6_takes {g : z_G} (a0 : Int32) (S : z_Stt) {v : Bool} {S' : z_Stt} (h : f_X6_takes a0 S = some (v, S')) : z_Ct g M_X6_takes 1 [.ref (z_ad g 13), .int a0] (hp g S) (z_P g (some (.int (bI v))) S') :=
  z_Ct.of (by decide +kernel) rfl (Nat.le_of_ble_eq_true rfl) (fun K cx ce => q_weak (L' := [some (.ref (z_ad g 13)), some (.int a0)]) (z_wk_s (z_wk_s (z_wk_0))) (t_X6_takes cx ce a0 S h))
abbrev M_X6_truth : z_M := (RX6, yX6_truth, cX6_truth, 1, some .int)
theorem mo_X6_truth : z_mo M_X6_truth 1 := ⟨tb_357, tb_29, rfl, ⟨by decide +kernel, by decide +kernel⟩, by decide +kernel, by decide⟩
theorem ms_X6_truth : z_ms M_X6_truth := tb_356
def f_X6_truth (a0 : Int32) (S : z_Stt) : Option (Int32 × z_Stt) :=
  if a0 = 0 then
    some (0, S)
  else
    some (1, S)
set_option maxHeartbeats 4000000 in
set_option maxRecDepth 100000 in
theorem t_X6_truth {g : z_G} {K : z_K} {v : Int32} {S' : z_Stt} (cx : z_C g M_X6_truth 0 K) (ce : z_E' g M_X6_truth (z_P g (some (.int v)) S') K) (a0 : Int32) (S : z_Stt) (h : f_X6_truth a0 S = some (v, S')) : z_At g M_X6_truth K 0 [some (.int a0)] [] (hp g S) := by
  unfold f_X6_truth at h
  refine z_iload_n cx rfl rfl dX6_truth_0 ?_
  refine z_if_eq (tgt := 8) cx (by decide) dX6_truth_1 (fun c1 => ?_) (fun c1 => ?_)
  · have h := g_t c1 h
    refine z_iconst (v := 0) cx (by decide +kernel) dX6_truth_8 ?_
    obtain ⟨rfl, rfl⟩ := g_some h
    exact z_ireturn cx ce rfl ⟨rfl, rfl⟩ dX6_truth_9
  · have h := g_f c1 h
    refine z_iconst (v := 1) cx (by decide +kernel) dX6_truth_4 ?_
    refine z_goto (tgt := 9) cx (by decide) dX6_truth_5 ?_
    obtain ⟨rfl, rfl⟩ := g_some h
    exact z_ireturn cx ce rfl ⟨rfl, rfl⟩ dX6_truth_9
theorem c_X6_truth {g : z_G} (a0 : Int32) (S : z_Stt) {v : Int32} {S' : z_Stt} (h : f_X6_truth a0 S = some (v, S')) : z_Ct g M_X6_truth 0 [.int a0] (hp g S) (z_P g (some (.int v)) S') :=
  z_Ct.of (by decide +kernel) rfl (Nat.le_of_ble_eq_true rfl) (fun K cx ce => q_weak (L' := [some (.int a0)]) (z_wk_s (z_wk_0)) (t_X6_truth cx ce a0 S h))
abbrev M_X6_number : z_M := (RX6, yX6_number, cX6_number, 3, some .int)
theorem mo_X6_number : z_mo M_X6_number 0 := ⟨tb_370, tb_29, rfl, ⟨by decide +kernel, by decide +kernel⟩, by decide +kernel, by decide⟩
theorem mv_X6_number : z_mv M_X6_number := ⟨tb_368, tb_369⟩
def f_X6_number_4 (n : Nat) : Nat → Int32 → Int32 → z_Stt → Option (Int32 × z_Stt)
  | 0, _, _, _ => none
  | m + 1, x1, x2, S =>
    if 4 ≤ x2 then
      some (x1, S)
    else
      g_bd (f_X6_letter S) fun v2 S3 =>
      if v2 < 48 then
        some (x1, S3)
      else
        g_bd (f_X6_letter S3) fun v6 S7 =>
        if 57 < v6 then
          some (x1, S7)
        else
          g_bd (f_X6_letter S7) fun v10 S11 =>
          g_let (sI S11 1305 ((S11.1 1305) + 1)) fun S13 =>
          f_X6_number_4 n m (((10 * x1) + v10) - 48) (x2 + 1) S13
set_option maxHeartbeats 4000000 in
set_option maxRecDepth 100000 in
theorem t_X6_number_4 {g : z_G} {K : z_K} (n : Nat) {v : Int32} {S' : z_Stt} (cx : z_C g M_X6_number 1 K) (ce : z_E' g M_X6_number (z_P g (some (.int v)) S') K) : ∀ (m : Nat) (x1 : Int32) (x2 : Int32) (S : z_Stt) (h : f_X6_number_4 n m x1 x2 S = some (v, S')), z_At g M_X6_number K 4 [some (.ref (z_ad g 13)), some (.int x1), some (.int x2)] [] (hp g S) := by
  intro m
  induction m with
  | zero => intro x1 x2 S h; simp [f_X6_number_4] at h
  | succ m ih =>
    intro x1 x2 S h
    rw [f_X6_number_4] at h
    refine z_iload_n cx rfl rfl dX6_number_4 ?_
    refine z_iconst (v := 4) cx (by decide +kernel) dX6_number_5 ?_
    refine z_icmp_ge (tgt := 56) cx (by decide) dX6_number_6 (fun c1 => ?_) (fun c1 => ?_)
    · have h := g_t c1 h
      refine z_iload_n cx rfl rfl dX6_number_56 ?_
      obtain ⟨rfl, rfl⟩ := g_some h
      exact z_ireturn cx ce rfl ⟨rfl, rfl⟩ dX6_number_57
    · have h := g_f c1 h
      refine z_aload_n cx rfl rfl dX6_number_9 ?_
      obtain ⟨v2, S3, e4, h⟩ := g_bd_ex h
      refine q_cvi (As := []) cx mo_X6_letter mv_X6_letter z_cl6 rfl tb_344 (by decide) rfl (by decide) rfl rfl (Nat.le_of_ble_eq_true rfl) dX6_number_10 (c_X6_letter  _ e4) ?_
      refine z_bipush (v := 48) cx (by decide +kernel) dX6_number_13 ?_
      refine z_icmp_lt (tgt := 56) cx (by decide) dX6_number_15 (fun c5 => ?_) (fun c5 => ?_)
      · have h := g_t c5 h
        refine z_iload_n cx rfl rfl dX6_number_56 ?_
        obtain ⟨rfl, rfl⟩ := g_some h
        exact z_ireturn cx ce rfl ⟨rfl, rfl⟩ dX6_number_57
      · have h := g_f c5 h
        refine z_aload_n cx rfl rfl dX6_number_18 ?_
        obtain ⟨v6, S7, e8, h⟩ := g_bd_ex h
        refine q_cvi (As := []) cx mo_X6_letter mv_X6_letter z_cl6 rfl tb_344 (by decide) rfl (by decide) rfl rfl (Nat.le_of_ble_eq_true rfl) dX6_number_19 (c_X6_letter  _ e8) ?_
        refine z_bipush (v := 57) cx (by decide +kernel) dX6_number_22 ?_
        refine z_icmp_gt (tgt := 56) cx (by decide) dX6_number_24 (fun c9 => ?_) (fun c9 => ?_)
        · have h := g_t c9 h
          refine z_iload_n cx rfl rfl dX6_number_56 ?_
          obtain ⟨rfl, rfl⟩ := g_some h
          exact z_ireturn cx ce rfl ⟨rfl, rfl⟩ dX6_number_57
        · have h := g_f c9 h
          refine z_bipush (v := 10) cx (by decide +kernel) dX6_number_27 ?_
          refine z_iload_n cx rfl rfl dX6_number_29 ?_
          refine z_imul cx dX6_number_30 ?_
          refine z_aload_n cx rfl rfl dX6_number_31 ?_
          obtain ⟨v10, S11, e12, h⟩ := g_bd_ex h
          refine q_cvi (As := []) cx mo_X6_letter mv_X6_letter z_cl6 rfl tb_344 (by decide) rfl (by decide) rfl rfl (Nat.le_of_ble_eq_true rfl) dX6_number_32 (c_X6_letter  _ e12) ?_
          refine z_iadd cx dX6_number_35 ?_
          refine z_bipush (v := 48) cx (by decide +kernel) dX6_number_36 ?_
          refine z_isub cx dX6_number_38 ?_
          refine z_istore_n (L' := [some (.ref (z_ad g 13)), some (.int (((10 * x1) + v10) - 48)), some (.int x2)]) cx rfl (by decide) rfl dX6_number_39 ?_
          refine z_aload_n cx rfl rfl dX6_number_40 ?_
          refine z_dup cx rfl dX6_number_41 ?_
          refine q_getI (k := 13) (n := 1305) cx z_cl6 (j := 5) (by decide) tb_88 rfl (by decide) rfl rfl rfl dX6_number_42 ?_
          refine z_iconst (v := 1) cx (by decide +kernel) dX6_number_45 ?_
          refine z_iadd cx dX6_number_46 ?_
          refine q_putI (k := 13) (n := 1305) cx z_cl6 (j := 5) (by decide) tb_88 rfl rfl rfl (by decide) rfl rfl rfl (by decide) (by decide) dX6_number_47 ?_
          obtain ⟨S13, e14, h⟩ := g_let_ex h
          rw [← e14]
          refine z_iinc (c := 1) (L' := [some (.ref (z_ad g 13)), some (.int (((10 * x1) + v10) - 48)), some (.int (x2 + 1))]) cx rfl (by decide +kernel) (by decide) rfl dX6_number_50 ?_
          refine z_goto (tgt := 4) cx (by decide) dX6_number_53 ?_
          exact q_weak (z_wk_s (z_wk_s (z_wk_s (z_wk_0)))) (ih (((10 * x1) + v10) - 48) (x2 + 1) S13 h)
def f_X6_number (n : Nat) (S : z_Stt) : Option (Int32 × z_Stt) :=
  f_X6_number_4 n n 0 0 S
set_option maxHeartbeats 4000000 in
set_option maxRecDepth 100000 in
theorem t_X6_number {g : z_G} {K : z_K} (n : Nat) {v : Int32} {S' : z_Stt} (cx : z_C g M_X6_number 1 K) (ce : z_E' g M_X6_number (z_P g (some (.int v)) S') K) (S : z_Stt) (h : f_X6_number n S = some (v, S')) : z_At g M_X6_number K 0 [some (.ref (z_ad g 13)), none, none] [] (hp g S) := by
  unfold f_X6_number at h
  refine z_iconst (v := 0) cx (by decide +kernel) dX6_number_0 ?_
  refine z_istore_n (L' := [some (.ref (z_ad g 13)), some (.int 0), none]) cx rfl (by decide) rfl dX6_number_1 ?_
  refine z_iconst (v := 0) cx (by decide +kernel) dX6_number_2 ?_
  refine z_istore_n (L' := [some (.ref (z_ad g 13)), some (.int 0), some (.int 0)]) cx rfl (by decide) rfl dX6_number_3 ?_
  exact q_weak (z_wk_s (z_wk_s (z_wk_s (z_wk_0)))) (t_X6_number_4 n cx ce n 0 0 S h)
theorem c_X6_number {g : z_G} {n : Nat} (S : z_Stt) {v : Int32} {S' : z_Stt} (h : f_X6_number n S = some (v, S')) : z_Ct g M_X6_number 1 [.ref (z_ad g 13)] (hp g S) (z_P g (some (.int v)) S') :=
  z_Ct.of (by decide +kernel) rfl (Nat.le_of_ble_eq_true rfl) (fun K cx ce => q_weak (L' := [some (.ref (z_ad g 13)), none, none]) (z_wk_s (z_wk_e (z_wk_e (z_wk_0)))) (t_X6_number n cx ce S h))
abbrev M_X6_nameOf : z_M := (RX6, yX6_nameOf, cX6_nameOf, 1, some .int)
theorem mo_X6_nameOf : z_mo M_X6_nameOf 1 := ⟨tb_373, tb_29, rfl, ⟨by decide +kernel, by decide +kernel⟩, by decide +kernel, by decide⟩
theorem ms_X6_nameOf : z_ms M_X6_nameOf := tb_372
def f_X6_nameOf (a0 : Int32) (S : z_Stt) : Option (Int32 × z_Stt) :=
  if a0 = 104 then
    some (1, S)
  else if a0 = 110 then
    some (5, S)
  else if a0 = 111 then
    some (0, S)
  else if a0 = 112 then
    some (3, S)
  else if a0 = 118 then
    some (4, S)
  else if a0 = 121 then
    some (2, S)
  else 
    some ((-1), S)
set_option maxHeartbeats 4000000 in
set_option maxRecDepth 100000 in
theorem t_X6_nameOf {g : z_G} {K : z_K} {v : Int32} {S' : z_Stt} (cx : z_C g M_X6_nameOf 0 K) (ce : z_E' g M_X6_nameOf (z_P g (some (.int v)) S') K) (a0 : Int32) (S : z_Stt) (h : f_X6_nameOf a0 S = some (v, S')) : z_At g M_X6_nameOf K 0 [some (.int a0)] [] (hp g S) := by
  unfold f_X6_nameOf at h
  refine z_iload_n cx rfl rfl dX6_nameOf_0 ?_
  by_cases c1 : a0 = 104
  · have h := g_t c1 h
    refine z_tableIn (tgt := 90) (off := 89) cx (by rw [c1]; decide +kernel) (by rw [c1]; decide +kernel) (by rw [c1]; decide +kernel) (by decide) dX6_nameOf_1 ?_
    refine z_iconst (v := 1) cx (by decide +kernel) dX6_nameOf_90 ?_
    obtain ⟨rfl, rfl⟩ := g_some h
    exact z_ireturn cx ce rfl ⟨rfl, rfl⟩ dX6_nameOf_91
  have h := g_f c1 h
  by_cases c2 : a0 = 110
  · have h := g_t c2 h
    refine z_tableIn (tgt := 98) (off := 97) cx (by rw [c2]; decide +kernel) (by rw [c2]; decide +kernel) (by rw [c2]; decide +kernel) (by decide) dX6_nameOf_1 ?_
    refine z_iconst (v := 5) cx (by decide +kernel) dX6_nameOf_98 ?_
    obtain ⟨rfl, rfl⟩ := g_some h
    exact z_ireturn cx ce rfl ⟨rfl, rfl⟩ dX6_nameOf_99
  have h := g_f c2 h
  by_cases c3 : a0 = 111
  · have h := g_t c3 h
    refine z_tableIn (tgt := 88) (off := 87) cx (by rw [c3]; decide +kernel) (by rw [c3]; decide +kernel) (by rw [c3]; decide +kernel) (by decide) dX6_nameOf_1 ?_
    refine z_iconst (v := 0) cx (by decide +kernel) dX6_nameOf_88 ?_
    obtain ⟨rfl, rfl⟩ := g_some h
    exact z_ireturn cx ce rfl ⟨rfl, rfl⟩ dX6_nameOf_89
  have h := g_f c3 h
  by_cases c4 : a0 = 112
  · have h := g_t c4 h
    refine z_tableIn (tgt := 94) (off := 93) cx (by rw [c4]; decide +kernel) (by rw [c4]; decide +kernel) (by rw [c4]; decide +kernel) (by decide) dX6_nameOf_1 ?_
    refine z_iconst (v := 3) cx (by decide +kernel) dX6_nameOf_94 ?_
    obtain ⟨rfl, rfl⟩ := g_some h
    exact z_ireturn cx ce rfl ⟨rfl, rfl⟩ dX6_nameOf_95
  have h := g_f c4 h
  by_cases c5 : a0 = 118
  · have h := g_t c5 h
    refine z_tableIn (tgt := 96) (off := 95) cx (by rw [c5]; decide +kernel) (by rw [c5]; decide +kernel) (by rw [c5]; decide +kernel) (by decide) dX6_nameOf_1 ?_
    refine z_iconst (v := 4) cx (by decide +kernel) dX6_nameOf_96 ?_
    obtain ⟨rfl, rfl⟩ := g_some h
    exact z_ireturn cx ce rfl ⟨rfl, rfl⟩ dX6_nameOf_97
  have h := g_f c5 h
  by_cases c6 : a0 = 121
  · have h := g_t c6 h
    refine z_tableIn (tgt := 92) (off := 91) cx (by rw [c6]; decide +kernel) (by rw [c6]; decide +kernel) (by rw [c6]; decide +kernel) (by decide) dX6_nameOf_1 ?_
    refine z_iconst (v := 2) cx (by decide +kernel) dX6_nameOf_92 ?_
    obtain ⟨rfl, rfl⟩ := g_some h
    exact z_ireturn cx ce rfl ⟨rfl, rfl⟩ dX6_nameOf_93
  have h := g_f c6 h
  refine q_tableD (tgt := 100) (lo := 104) (hi := 121) cx [104, 110, 111, 112, 118, 121] (by decide +kernel) (by intro a ha; simp only [List.mem_cons, List.not_mem_nil, or_false] at ha; rcases ha with rfl | rfl | rfl | rfl | rfl | rfl <;> assumption) (by decide) dX6_nameOf_1 ?_
  refine z_iconst (v := (-1)) cx (by decide +kernel) dX6_nameOf_100 ?_
  obtain ⟨rfl, rfl⟩ := g_some h
  exact z_ireturn cx ce rfl ⟨rfl, rfl⟩ dX6_nameOf_101
theorem c_X6_nameOf {g : z_G} (a0 : Int32) (S : z_Stt) {v : Int32} {S' : z_Stt} (h : f_X6_nameOf a0 S = some (v, S')) : z_Ct g M_X6_nameOf 0 [.int a0] (hp g S) (z_P g (some (.int v)) S') :=
  z_Ct.of (by decide +kernel) rfl (Nat.le_of_ble_eq_true rfl) (fun K cx ce => q_weak (L' := [some (.int a0)]) (z_wk_s (z_wk_0)) (t_X6_nameOf cx ce a0 S h))
abbrev M_X6_fails : z_M := (RX6, yX6_fails, cX6_fails, 1, some .int)
theorem mo_X6_fails : z_mo M_X6_fails 0 := ⟨tb_377, tb_29, rfl, ⟨by decide +kernel, by decide +kernel⟩, by decide +kernel, by decide⟩
theorem mv_X6_fails : z_mv M_X6_fails := ⟨tb_375, tb_376⟩
def f_X6_fails (S : z_Stt) : Option (Int32 × z_Stt) :=
  if 0 ≤ S.1 1306 then
    some (0, S)
  else
    g_let (sI S 1306 (S.1 1305)) fun S2 =>
    some (0, S2)
set_option maxHeartbeats 4000000 in
set_option maxRecDepth 100000 in
theorem t_X6_fails {g : z_G} {K : z_K} {v : Int32} {S' : z_Stt} (cx : z_C g M_X6_fails 0 K) (ce : z_E' g M_X6_fails (z_P g (some (.int v)) S') K) (S : z_Stt) (h : f_X6_fails S = some (v, S')) : z_At g M_X6_fails K 0 [some (.ref (z_ad g 13))] [] (hp g S) := by
  unfold f_X6_fails at h
  refine z_aload_n cx rfl rfl dX6_fails_0 ?_
  refine q_getI (k := 13) (n := 1306) cx z_cl6 (j := 6) (by decide) tb_89 rfl (by decide) rfl rfl rfl dX6_fails_1 ?_
  refine z_if_ge (tgt := 15) cx (by decide) dX6_fails_4 (fun c1 => ?_) (fun c1 => ?_)
  · have h := g_t c1 h
    refine z_iconst (v := 0) cx (by decide +kernel) dX6_fails_15 ?_
    obtain ⟨rfl, rfl⟩ := g_some h
    exact z_ireturn cx ce rfl ⟨rfl, rfl⟩ dX6_fails_16
  · have h := g_f c1 h
    refine z_aload_n cx rfl rfl dX6_fails_7 ?_
    refine z_aload_n cx rfl rfl dX6_fails_8 ?_
    refine q_getI (k := 13) (n := 1305) cx z_cl6 (j := 5) (by decide) tb_88 rfl (by decide) rfl rfl rfl dX6_fails_9 ?_
    refine q_putI (k := 13) (n := 1306) cx z_cl6 (j := 6) (by decide) tb_89 rfl rfl rfl (by decide) rfl rfl rfl (by decide) (by decide) dX6_fails_12 ?_
    obtain ⟨S2, e3, h⟩ := g_let_ex h
    rw [← e3]
    refine z_iconst (v := 0) cx (by decide +kernel) dX6_fails_15 ?_
    obtain ⟨rfl, rfl⟩ := g_some h
    exact z_ireturn cx ce rfl ⟨rfl, rfl⟩ dX6_fails_16
theorem c_X6_fails {g : z_G} (S : z_Stt) {v : Int32} {S' : z_Stt} (h : f_X6_fails S = some (v, S')) : z_Ct g M_X6_fails 0 [.ref (z_ad g 13)] (hp g S) (z_P g (some (.int v)) S') :=
  z_Ct.of (by decide +kernel) rfl (Nat.le_of_ble_eq_true rfl) (fun K cx ce => q_weak (L' := [some (.ref (z_ad g 13))]) (z_wk_s (z_wk_0)) (t_X6_fails cx ce S h))
abbrev GT_X6_either : Type := (Int32 → z_Stt → Option (Int32 × z_Stt)) × (Int32 → z_Stt → Option (Int32 × z_Stt)) × (Int32 → z_Stt → Option (Int32 × z_Stt)) × (Int32 → z_Stt → Option (Int32 × z_Stt)) × (Int32 → z_Stt → Option (Int32 × z_Stt)) × (Int32 → z_Stt → Option (Int32 × z_Stt))
def HG_X6_either (g : z_G) (G : GT_X6_either) (d0 : Nat) : Prop := (∀ (a0 : Int32) (S : z_Stt) (v : Int32) (S' : z_Stt), G.1 a0 S = some (v, S') → z_Ct g (RX6, yX6_either, cX6_either, 5, some .int) d0 [.ref (z_ad g 13), .int a0] (hp g S) (z_P g (some (.int v)) S')) ∧ (∀ (a0 : Int32) (S : z_Stt) (v : Int32) (S' : z_Stt), G.2.1 a0 S = some (v, S') → z_Ct g (RX6, yX6_both, cX6_both, 5, some .int) d0 [.ref (z_ad g 13), .int a0] (hp g S) (z_P g (some (.int v)) S')) ∧ (∀ (a0 : Int32) (S : z_Stt) (v : Int32) (S' : z_Stt), G.2.2.1 a0 S = some (v, S') → z_Ct g (RX6, yX6_comparison, cX6_comparison, 3, some .int) d0 [.ref (z_ad g 13), .int a0] (hp g S) (z_P g (some (.int v)) S')) ∧ (∀ (a0 : Int32) (S : z_Stt) (v : Int32) (S' : z_Stt), G.2.2.2.1 a0 S = some (v, S') → z_Ct g (RX6, yX6_sum, cX6_sum, 4, some .int) d0 [.ref (z_ad g 13), .int a0] (hp g S) (z_P g (some (.int v)) S')) ∧ (∀ (a0 : Int32) (S : z_Stt) (v : Int32) (S' : z_Stt), G.2.2.2.2.1 a0 S = some (v, S') → z_Ct g (RX6, yX6_product, cX6_product, 5, some .int) d0 [.ref (z_ad g 13), .int a0] (hp g S) (z_P g (some (.int v)) S')) ∧ (∀ (a0 : Int32) (S : z_Stt) (v : Int32) (S' : z_Stt), G.2.2.2.2.2 a0 S = some (v, S') → z_Ct g (RX6, yX6_operand, cX6_operand, 5, some .int) d0 [.ref (z_ad g 13), .int a0] (hp g S) (z_P g (some (.int v)) S'))
abbrev M_X6_either : z_M := (RX6, yX6_either, cX6_either, 5, some .int)
theorem mo_X6_either : z_mo M_X6_either 1 := ⟨tb_351, tb_29, rfl, ⟨by decide +kernel, by decide +kernel⟩, by decide +kernel, by decide⟩
theorem mv_X6_either : z_mv M_X6_either := ⟨tb_349, tb_350⟩
abbrev M_X6_both : z_M := (RX6, yX6_both, cX6_both, 5, some .int)
theorem mo_X6_both : z_mo M_X6_both 1 := ⟨tb_358, tb_29, rfl, ⟨by decide +kernel, by decide +kernel⟩, by decide +kernel, by decide⟩
theorem mv_X6_both : z_mv M_X6_both := ⟨tb_353, tb_354⟩
abbrev M_X6_comparison : z_M := (RX6, yX6_comparison, cX6_comparison, 3, some .int)
theorem mo_X6_comparison : z_mo M_X6_comparison 1 := ⟨tb_362, tb_29, rfl, ⟨by decide +kernel, by decide +kernel⟩, by decide +kernel, by decide⟩
theorem mv_X6_comparison : z_mv M_X6_comparison := ⟨tb_360, tb_361⟩
abbrev M_X6_sum : z_M := (RX6, yX6_sum, cX6_sum, 4, some .int)
theorem mo_X6_sum : z_mo M_X6_sum 1 := ⟨tb_382, tb_29, rfl, ⟨by decide +kernel, by decide +kernel⟩, by decide +kernel, by decide⟩
theorem mv_X6_sum : z_mv M_X6_sum := ⟨tb_364, tb_365⟩
abbrev M_X6_product : z_M := (RX6, yX6_product, cX6_product, 5, some .int)
theorem mo_X6_product : z_mo M_X6_product 1 := ⟨tb_381, tb_29, rfl, ⟨by decide +kernel, by decide +kernel⟩, by decide +kernel, by decide⟩
theorem mv_X6_product : z_mv M_X6_product := ⟨tb_384, tb_385⟩
abbrev M_X6_operand : z_M := (RX6, yX6_operand, cX6_operand, 5, some .int)
theorem mo_X6_operand : z_mo M_X6_operand 1 := ⟨tb_366, tb_29, rfl, ⟨by decide +kernel, by decide +kernel⟩, by decide +kernel, by decide⟩
theorem mv_X6_operand : z_mv M_X6_operand := ⟨tb_379, tb_380⟩
def f_X6_either_44 (n : Nat) (G : GT_X6_either) (k8 : Int32 → Int32 → Int32 → z_Stt → Option (Int32 × z_Stt)) (x1 : Int32) (x3 : Int32) (y0 : Int32) (S : z_Stt) : Option (Int32 × z_Stt) :=
  g_bd (f_X6_truth y0 S) fun v1 S2 =>
  k8 x1 v1 (x3 + 1) S2
set_option maxHeartbeats 4000000 in
set_option maxRecDepth 100000 in
theorem t_X6_either_44 {g : z_G} {K : z_K} (n : Nat) (G : GT_X6_either) {d0 : Nat} (hG : HG_X6_either g G d0) (hb : 1 ≤ d0) {v : Int32} {S' : z_Stt} (cx : z_C g M_X6_either (d0 + 1) K) (ce : z_E' g M_X6_either (z_P g (some (.int v)) S') K) (k8 : Int32 → Int32 → Int32 → z_Stt → Option (Int32 × z_Stt)) (hk8 : ∀ (x1 : Int32) (x2 : Int32) (x3 : Int32) (S : z_Stt), k8 x1 x2 x3 S = some (v, S') → z_At g M_X6_either K 8 [some (.ref (z_ad g 13)), some (.int x1), some (.int x2), some (.int x3), none] [] (hp g S)) (x1 : Int32) (x3 : Int32) (y0 : Int32) (S : z_Stt) (h : f_X6_either_44 n G k8 x1 x3 y0 S = some (v, S')) : z_At g M_X6_either K 44 [some (.ref (z_ad g 13)), some (.int x1), none, some (.int x3), none] [.int y0] (hp g S) := by
  unfold f_X6_either_44 at h
  obtain ⟨v1, S2, e3, h⟩ := g_bd_ex h
  refine q_csi (As := [.int y0]) cx mo_X6_truth ms_X6_truth tb_355 (by omega) rfl rfl (Nat.le_of_ble_eq_true rfl) dX6_either_44 (c_X6_truth y0 _ e3) ?_
  refine z_istore_n (L' := [some (.ref (z_ad g 13)), some (.int x1), some (.int v1), some (.int x3), none]) cx rfl (by decide) rfl dX6_either_47 ?_
  refine z_iinc (c := 1) (L' := [some (.ref (z_ad g 13)), some (.int x1), some (.int v1), some (.int (x3 + 1)), none]) cx rfl (by decide +kernel) (by decide) rfl dX6_either_48 ?_
  refine z_goto (tgt := 8) cx (by decide) dX6_either_51 ?_
  exact q_weak (z_wk_s (z_wk_s (z_wk_s (z_wk_s (z_wk_n (z_wk_0)))))) (hk8 x1 v1 (x3 + 1) S2 h)
def f_X6_either_39 (n : Nat) (G : GT_X6_either) (k8 : Int32 → Int32 → Int32 → z_Stt → Option (Int32 × z_Stt)) (x1 : Int32) (x3 : Int32) (S : z_Stt) : Option (Int32 × z_Stt) :=
  f_X6_either_44 n G k8 x1 x3 1 S
set_option maxHeartbeats 4000000 in
set_option maxRecDepth 100000 in
theorem t_X6_either_39 {g : z_G} {K : z_K} (n : Nat) (G : GT_X6_either) {d0 : Nat} (hG : HG_X6_either g G d0) (hb : 1 ≤ d0) {v : Int32} {S' : z_Stt} (cx : z_C g M_X6_either (d0 + 1) K) (ce : z_E' g M_X6_either (z_P g (some (.int v)) S') K) (k8 : Int32 → Int32 → Int32 → z_Stt → Option (Int32 × z_Stt)) (hk8 : ∀ (x1 : Int32) (x2 : Int32) (x3 : Int32) (S : z_Stt), k8 x1 x2 x3 S = some (v, S') → z_At g M_X6_either K 8 [some (.ref (z_ad g 13)), some (.int x1), some (.int x2), some (.int x3), none] [] (hp g S)) (x1 : Int32) (x3 : Int32) (S : z_Stt) (h : f_X6_either_39 n G k8 x1 x3 S = some (v, S')) : z_At g M_X6_either K 39 [some (.ref (z_ad g 13)), some (.int x1), none, some (.int x3), none] [] (hp g S) := by
  unfold f_X6_either_39 at h
  refine z_iconst (v := 1) cx (by decide +kernel) dX6_either_39 ?_
  refine z_goto (tgt := 44) cx (by decide) dX6_either_40 ?_
  exact q_weak (z_wk_s (z_wk_s (z_wk_n (z_wk_s (z_wk_n (z_wk_0)))))) (t_X6_either_44 n G hG hb cx ce k8 hk8 x1 x3 1 S h)
def f_X6_either_8 (n : Nat) (G : GT_X6_either) : Nat → Int32 → Int32 → Int32 → z_Stt → Option (Int32 × z_Stt)
  | 0, _, _, _, _ => none
  | m + 1, x1, x2, x3, S =>
    if 120 ≤ x3 then
      some (x2, S)
    else
      g_bd (f_X6_takes 124 S) fun v2 S3 =>
      if v2 = true then
        g_bd (G.2.1 x1 S3) fun v6 S7 =>
        if x2 = 0 then
          if v6 = 0 then
            f_X6_either_44 n G (f_X6_either_8 n G m) x1 x3 0 S7
          else
            f_X6_either_39 n G (f_X6_either_8 n G m) x1 x3 S7
        else
          f_X6_either_39 n G (f_X6_either_8 n G m) x1 x3 S7
      else
        some (x2, S3)
set_option maxHeartbeats 4000000 in
set_option maxRecDepth 100000 in
theorem t_X6_either_8 {g : z_G} {K : z_K} (n : Nat) (G : GT_X6_either) {d0 : Nat} (hG : HG_X6_either g G d0) (hb : 1 ≤ d0) {v : Int32} {S' : z_Stt} (cx : z_C g M_X6_either (d0 + 1) K) (ce : z_E' g M_X6_either (z_P g (some (.int v)) S') K) : ∀ (m : Nat) (x1 : Int32) (x2 : Int32) (x3 : Int32) (S : z_Stt) (h : f_X6_either_8 n G m x1 x2 x3 S = some (v, S')), z_At g M_X6_either K 8 [some (.ref (z_ad g 13)), some (.int x1), some (.int x2), some (.int x3), none] [] (hp g S) := by
  intro m
  induction m with
  | zero => intro x1 x2 x3 S h; simp [f_X6_either_8] at h
  | succ m ih =>
    intro x1 x2 x3 S h
    rw [f_X6_either_8] at h
    refine z_iload_n cx rfl rfl dX6_either_8 ?_
    refine z_bipush (v := 120) cx (by decide +kernel) dX6_either_9 ?_
    refine z_icmp_ge (tgt := 54) cx (by decide) dX6_either_11 (fun c1 => ?_) (fun c1 => ?_)
    · have h := g_t c1 h
      refine z_iload_n cx rfl rfl dX6_either_54 ?_
      obtain ⟨rfl, rfl⟩ := g_some h
      exact z_ireturn cx ce rfl ⟨rfl, rfl⟩ dX6_either_55
    · have h := g_f c1 h
      refine z_aload_n cx rfl rfl dX6_either_14 ?_
      refine z_bipush (v := 124) cx (by decide +kernel) dX6_either_15 ?_
      obtain ⟨v2, S3, e4, h⟩ := g_bd_ex h
      refine q_cvi (As := [.int 124]) cx mo_X6_takes mv_X6_takes z_cl6 rfl tb_340 (by omega) rfl (by decide) rfl rfl (Nat.le_of_ble_eq_true rfl) dX6_either_17 (c_X6_takes 124 _ e4) ?_
      refine q_ifb_eq (tgt := 54) cx (by decide) dX6_either_20 (fun c5 => ?_) (fun c5 => ?_)
      · have h := g_f (Bool.eq_false_iff.mp c5) h
        refine z_iload_n cx rfl rfl dX6_either_54 ?_
        obtain ⟨rfl, rfl⟩ := g_some h
        exact z_ireturn cx ce rfl ⟨rfl, rfl⟩ dX6_either_55
      · have h := g_t c5 h
        refine z_aload_n cx rfl rfl dX6_either_23 ?_
        refine z_iload_n cx rfl rfl dX6_either_24 ?_
        obtain ⟨v6, S7, e8, h⟩ := g_bd_ex h
        refine q_cvi (As := [.int x1]) cx mo_X6_both mv_X6_both z_cl6 rfl tb_352 (Nat.le_refl _) rfl (by decide) rfl rfl (Nat.le_of_ble_eq_true rfl) dX6_either_25 (hG.2.1 x1 _ _ _ e8) ?_
        refine z_istore (L' := [some (.ref (z_ad g 13)), some (.int x1), some (.int x2), some (.int x3), some (.int v6)]) cx (by decide) rfl dX6_either_28 ?_
        refine z_iload_n cx rfl rfl dX6_either_30 ?_
        refine z_if_ne (tgt := 39) cx (by decide) dX6_either_31 (fun c9 => ?_) (fun c9 => ?_)
        · have h := g_f c9 h
          exact q_weak (z_wk_s (z_wk_s (z_wk_n (z_wk_s (z_wk_n (z_wk_0)))))) (t_X6_either_39 n G hG hb cx ce (f_X6_either_8 n G m) ih x1 x3 S7 h)
        · have h := g_t c9 h
          refine z_iload cx rfl dX6_either_34 ?_
          refine z_if_eq (tgt := 43) cx (by decide) dX6_either_36 (fun c10 => ?_) (fun c10 => ?_)
          · have h := g_t c10 h
            refine z_iconst (v := 0) cx (by decide +kernel) dX6_either_43 ?_
            exact q_weak (z_wk_s (z_wk_s (z_wk_n (z_wk_s (z_wk_n (z_wk_0)))))) (t_X6_either_44 n G hG hb cx ce (f_X6_either_8 n G m) ih x1 x3 0 S7 h)
          · have h := g_f c10 h
            exact q_weak (z_wk_s (z_wk_s (z_wk_n (z_wk_s (z_wk_n (z_wk_0)))))) (t_X6_either_39 n G hG hb cx ce (f_X6_either_8 n G m) ih x1 x3 S7 h)
def f_X6_either (n : Nat) (G : GT_X6_either) (a0 : Int32) (S : z_Stt) : Option (Int32 × z_Stt) :=
  g_bd (G.2.1 a0 S) fun v1 S2 =>
  f_X6_either_8 n G n a0 v1 0 S2
set_option maxHeartbeats 4000000 in
set_option maxRecDepth 100000 in
theorem t_X6_either {g : z_G} {K : z_K} (n : Nat) (G : GT_X6_either) {d0 : Nat} (hG : HG_X6_either g G d0) (hb : 1 ≤ d0) {v : Int32} {S' : z_Stt} (cx : z_C g M_X6_either (d0 + 1) K) (ce : z_E' g M_X6_either (z_P g (some (.int v)) S') K) (a0 : Int32) (S : z_Stt) (h : f_X6_either n G a0 S = some (v, S')) : z_At g M_X6_either K 0 [some (.ref (z_ad g 13)), some (.int a0), none, none, none] [] (hp g S) := by
  unfold f_X6_either at h
  refine z_aload_n cx rfl rfl dX6_either_0 ?_
  refine z_iload_n cx rfl rfl dX6_either_1 ?_
  obtain ⟨v1, S2, e3, h⟩ := g_bd_ex h
  refine q_cvi (As := [.int a0]) cx mo_X6_both mv_X6_both z_cl6 rfl tb_352 (Nat.le_refl _) rfl (by decide) rfl rfl (Nat.le_of_ble_eq_true rfl) dX6_either_2 (hG.2.1 a0 _ _ _ e3) ?_
  refine z_istore_n (L' := [some (.ref (z_ad g 13)), some (.int a0), some (.int v1), none, none]) cx rfl (by decide) rfl dX6_either_5 ?_
  refine z_iconst (v := 0) cx (by decide +kernel) dX6_either_6 ?_
  refine z_istore_n (L' := [some (.ref (z_ad g 13)), some (.int a0), some (.int v1), some (.int 0), none]) cx rfl (by decide) rfl dX6_either_7 ?_
  exact q_weak (z_wk_s (z_wk_s (z_wk_s (z_wk_s (z_wk_n (z_wk_0)))))) (t_X6_either_8 n G hG hb cx ce n a0 v1 0 S2 h)
theorem c_X6_either {g : z_G} {n : Nat} {G : GT_X6_either} {d0 : Nat} (hG : HG_X6_either g G d0) (hb : 1 ≤ d0) (a0 : Int32) (S : z_Stt) {v : Int32} {S' : z_Stt} (h : f_X6_either n G a0 S = some (v, S')) : z_Ct g M_X6_either (d0 + 1) [.ref (z_ad g 13), .int a0] (hp g S) (z_P g (some (.int v)) S') :=
  z_Ct.of (by decide +kernel) rfl (Nat.le_of_ble_eq_true rfl) (fun K cx ce => q_weak (L' := [some (.ref (z_ad g 13)), some (.int a0), none, none, none]) (z_wk_s (z_wk_s (z_wk_e (z_wk_e (z_wk_e (z_wk_0)))))) (t_X6_either n G hG hb cx ce a0 S h))
def f_X6_both_44 (n : Nat) (G : GT_X6_either) (k8 : Int32 → Int32 → Int32 → z_Stt → Option (Int32 × z_Stt)) (x1 : Int32) (x3 : Int32) (y0 : Int32) (S : z_Stt) : Option (Int32 × z_Stt) :=
  g_bd (f_X6_truth y0 S) fun v1 S2 =>
  k8 x1 v1 (x3 + 1) S2
set_option maxHeartbeats 4000000 in
set_option maxRecDepth 100000 in
theorem t_X6_both_44 {g : z_G} {K : z_K} (n : Nat) (G : GT_X6_either) {d0 : Nat} (hG : HG_X6_either g G d0) (hb : 1 ≤ d0) {v : Int32} {S' : z_Stt} (cx : z_C g M_X6_both (d0 + 1) K) (ce : z_E' g M_X6_both (z_P g (some (.int v)) S') K) (k8 : Int32 → Int32 → Int32 → z_Stt → Option (Int32 × z_Stt)) (hk8 : ∀ (x1 : Int32) (x2 : Int32) (x3 : Int32) (S : z_Stt), k8 x1 x2 x3 S = some (v, S') → z_At g M_X6_both K 8 [some (.ref (z_ad g 13)), some (.int x1), some (.int x2), some (.int x3), none] [] (hp g S)) (x1 : Int32) (x3 : Int32) (y0 : Int32) (S : z_Stt) (h : f_X6_both_44 n G k8 x1 x3 y0 S = some (v, S')) : z_At g M_X6_both K 44 [some (.ref (z_ad g 13)), some (.int x1), none, some (.int x3), none] [.int y0] (hp g S) := by
  unfold f_X6_both_44 at h
  obtain ⟨v1, S2, e3, h⟩ := g_bd_ex h
  refine q_csi (As := [.int y0]) cx mo_X6_truth ms_X6_truth tb_355 (by omega) rfl rfl (Nat.le_of_ble_eq_true rfl) dX6_both_44 (c_X6_truth y0 _ e3) ?_
  refine z_istore_n (L' := [some (.ref (z_ad g 13)), some (.int x1), some (.int v1), some (.int x3), none]) cx rfl (by decide) rfl dX6_both_47 ?_
  refine z_iinc (c := 1) (L' := [some (.ref (z_ad g 13)), some (.int x1), some (.int v1), some (.int (x3 + 1)), none]) cx rfl (by decide +kernel) (by decide) rfl dX6_both_48 ?_
  refine z_goto (tgt := 8) cx (by decide) dX6_both_51 ?_
  exact q_weak (z_wk_s (z_wk_s (z_wk_s (z_wk_s (z_wk_n (z_wk_0)))))) (hk8 x1 v1 (x3 + 1) S2 h)
def f_X6_both_43 (n : Nat) (G : GT_X6_either) (k8 : Int32 → Int32 → Int32 → z_Stt → Option (Int32 × z_Stt)) (x1 : Int32) (x3 : Int32) (S : z_Stt) : Option (Int32 × z_Stt) :=
  f_X6_both_44 n G k8 x1 x3 0 S
set_option maxHeartbeats 4000000 in
set_option maxRecDepth 100000 in
theorem t_X6_both_43 {g : z_G} {K : z_K} (n : Nat) (G : GT_X6_either) {d0 : Nat} (hG : HG_X6_either g G d0) (hb : 1 ≤ d0) {v : Int32} {S' : z_Stt} (cx : z_C g M_X6_both (d0 + 1) K) (ce : z_E' g M_X6_both (z_P g (some (.int v)) S') K) (k8 : Int32 → Int32 → Int32 → z_Stt → Option (Int32 × z_Stt)) (hk8 : ∀ (x1 : Int32) (x2 : Int32) (x3 : Int32) (S : z_Stt), k8 x1 x2 x3 S = some (v, S') → z_At g M_X6_both K 8 [some (.ref (z_ad g 13)), some (.int x1), some (.int x2), some (.int x3), none] [] (hp g S)) (x1 : Int32) (x3 : Int32) (S : z_Stt) (h : f_X6_both_43 n G k8 x1 x3 S = some (v, S')) : z_At g M_X6_both K 43 [some (.ref (z_ad g 13)), some (.int x1), none, some (.int x3), none] [] (hp g S) := by
  unfold f_X6_both_43 at h
  refine z_iconst (v := 0) cx (by decide +kernel) dX6_both_43 ?_
  exact q_weak (z_wk_s (z_wk_s (z_wk_n (z_wk_s (z_wk_n (z_wk_0)))))) (t_X6_both_44 n G hG hb cx ce k8 hk8 x1 x3 0 S h)
def f_X6_both_8 (n : Nat) (G : GT_X6_either) : Nat → Int32 → Int32 → Int32 → z_Stt → Option (Int32 × z_Stt)
  | 0, _, _, _, _ => none
  | m + 1, x1, x2, x3, S =>
    if 120 ≤ x3 then
      some (x2, S)
    else
      g_bd (f_X6_takes 38 S) fun v2 S3 =>
      if v2 = true then
        g_bd (G.2.2.1 x1 S3) fun v6 S7 =>
        if x2 = 0 then
          f_X6_both_43 n G (f_X6_both_8 n G m) x1 x3 S7
        else
          if v6 = 0 then
            f_X6_both_43 n G (f_X6_both_8 n G m) x1 x3 S7
          else
            f_X6_both_44 n G (f_X6_both_8 n G m) x1 x3 1 S7
      else
        some (x2, S3)
set_option maxHeartbeats 4000000 in
set_option maxRecDepth 100000 in
theorem t_X6_both_8 {g : z_G} {K : z_K} (n : Nat) (G : GT_X6_either) {d0 : Nat} (hG : HG_X6_either g G d0) (hb : 1 ≤ d0) {v : Int32} {S' : z_Stt} (cx : z_C g M_X6_both (d0 + 1) K) (ce : z_E' g M_X6_both (z_P g (some (.int v)) S') K) : ∀ (m : Nat) (x1 : Int32) (x2 : Int32) (x3 : Int32) (S : z_Stt) (h : f_X6_both_8 n G m x1 x2 x3 S = some (v, S')), z_At g M_X6_both K 8 [some (.ref (z_ad g 13)), some (.int x1), some (.int x2), some (.int x3), none] [] (hp g S) := by
  intro m
  induction m with
  | zero => intro x1 x2 x3 S h; simp [f_X6_both_8] at h
  | succ m ih =>
    intro x1 x2 x3 S h
    rw [f_X6_both_8] at h
    refine z_iload_n cx rfl rfl dX6_both_8 ?_
    refine z_bipush (v := 120) cx (by decide +kernel) dX6_both_9 ?_
    refine z_icmp_ge (tgt := 54) cx (by decide) dX6_both_11 (fun c1 => ?_) (fun c1 => ?_)
    · have h := g_t c1 h
      refine z_iload_n cx rfl rfl dX6_both_54 ?_
      obtain ⟨rfl, rfl⟩ := g_some h
      exact z_ireturn cx ce rfl ⟨rfl, rfl⟩ dX6_both_55
    · have h := g_f c1 h
      refine z_aload_n cx rfl rfl dX6_both_14 ?_
      refine z_bipush (v := 38) cx (by decide +kernel) dX6_both_15 ?_
      obtain ⟨v2, S3, e4, h⟩ := g_bd_ex h
      refine q_cvi (As := [.int 38]) cx mo_X6_takes mv_X6_takes z_cl6 rfl tb_340 (by omega) rfl (by decide) rfl rfl (Nat.le_of_ble_eq_true rfl) dX6_both_17 (c_X6_takes 38 _ e4) ?_
      refine q_ifb_eq (tgt := 54) cx (by decide) dX6_both_20 (fun c5 => ?_) (fun c5 => ?_)
      · have h := g_f (Bool.eq_false_iff.mp c5) h
        refine z_iload_n cx rfl rfl dX6_both_54 ?_
        obtain ⟨rfl, rfl⟩ := g_some h
        exact z_ireturn cx ce rfl ⟨rfl, rfl⟩ dX6_both_55
      · have h := g_t c5 h
        refine z_aload_n cx rfl rfl dX6_both_23 ?_
        refine z_iload_n cx rfl rfl dX6_both_24 ?_
        obtain ⟨v6, S7, e8, h⟩ := g_bd_ex h
        refine q_cvi (As := [.int x1]) cx mo_X6_comparison mv_X6_comparison z_cl6 rfl tb_359 (Nat.le_refl _) rfl (by decide) rfl rfl (Nat.le_of_ble_eq_true rfl) dX6_both_25 (hG.2.2.1 x1 _ _ _ e8) ?_
        refine z_istore (L' := [some (.ref (z_ad g 13)), some (.int x1), some (.int x2), some (.int x3), some (.int v6)]) cx (by decide) rfl dX6_both_28 ?_
        refine z_iload_n cx rfl rfl dX6_both_30 ?_
        refine z_if_eq (tgt := 43) cx (by decide) dX6_both_31 (fun c9 => ?_) (fun c9 => ?_)
        · have h := g_t c9 h
          exact q_weak (z_wk_s (z_wk_s (z_wk_n (z_wk_s (z_wk_n (z_wk_0)))))) (t_X6_both_43 n G hG hb cx ce (f_X6_both_8 n G m) ih x1 x3 S7 h)
        · have h := g_f c9 h
          refine z_iload cx rfl dX6_both_34 ?_
          refine z_if_eq (tgt := 43) cx (by decide) dX6_both_36 (fun c10 => ?_) (fun c10 => ?_)
          · have h := g_t c10 h
            exact q_weak (z_wk_s (z_wk_s (z_wk_n (z_wk_s (z_wk_n (z_wk_0)))))) (t_X6_both_43 n G hG hb cx ce (f_X6_both_8 n G m) ih x1 x3 S7 h)
          · have h := g_f c10 h
            refine z_iconst (v := 1) cx (by decide +kernel) dX6_both_39 ?_
            refine z_goto (tgt := 44) cx (by decide) dX6_both_40 ?_
            exact q_weak (z_wk_s (z_wk_s (z_wk_n (z_wk_s (z_wk_n (z_wk_0)))))) (t_X6_both_44 n G hG hb cx ce (f_X6_both_8 n G m) ih x1 x3 1 S7 h)
def f_X6_both (n : Nat) (G : GT_X6_either) (a0 : Int32) (S : z_Stt) : Option (Int32 × z_Stt) :=
  g_bd (G.2.2.1 a0 S) fun v1 S2 =>
  f_X6_both_8 n G n a0 v1 0 S2
set_option maxHeartbeats 4000000 in
set_option maxRecDepth 100000 in
theorem t_X6_both {g : z_G} {K : z_K} (n : Nat) (G : GT_X6_either) {d0 : Nat} (hG : HG_X6_either g G d0) (hb : 1 ≤ d0) {v : Int32} {S' : z_Stt} (cx : z_C g M_X6_both (d0 + 1) K) (ce : z_E' g M_X6_both (z_P g (some (.int v)) S') K) (a0 : Int32) (S : z_Stt) (h : f_X6_both n G a0 S = some (v, S')) : z_At g M_X6_both K 0 [some (.ref (z_ad g 13)), some (.int a0), none, none, none] [] (hp g S) := by
  unfold f_X6_both at h
  refine z_aload_n cx rfl rfl dX6_both_0 ?_
  refine z_iload_n cx rfl rfl dX6_both_1 ?_
  obtain ⟨v1, S2, e3, h⟩ := g_bd_ex h
  refine q_cvi (As := [.int a0]) cx mo_X6_comparison mv_X6_comparison z_cl6 rfl tb_359 (Nat.le_refl _) rfl (by decide) rfl rfl (Nat.le_of_ble_eq_true rfl) dX6_both_2 (hG.2.2.1 a0 _ _ _ e3) ?_
  refine z_istore_n (L' := [some (.ref (z_ad g 13)), some (.int a0), some (.int v1), none, none]) cx rfl (by decide) rfl dX6_both_5 ?_
  refine z_iconst (v := 0) cx (by decide +kernel) dX6_both_6 ?_
  refine z_istore_n (L' := [some (.ref (z_ad g 13)), some (.int a0), some (.int v1), some (.int 0), none]) cx rfl (by decide) rfl dX6_both_7 ?_
  exact q_weak (z_wk_s (z_wk_s (z_wk_s (z_wk_s (z_wk_n (z_wk_0)))))) (t_X6_both_8 n G hG hb cx ce n a0 v1 0 S2 h)
theorem c_X6_both {g : z_G} {n : Nat} {G : GT_X6_either} {d0 : Nat} (hG : HG_X6_either g G d0) (hb : 1 ≤ d0) (a0 : Int32) (S : z_Stt) {v : Int32} {S' : z_Stt} (h : f_X6_both n G a0 S = some (v, S')) : z_Ct g M_X6_both (d0 + 1) [.ref (z_ad g 13), .int a0] (hp g S) (z_P g (some (.int v)) S') :=
  z_Ct.of (by decide +kernel) rfl (Nat.le_of_ble_eq_true rfl) (fun K cx ce => q_weak (L' := [some (.ref (z_ad g 13)), some (.int a0), none, none, none]) (z_wk_s (z_wk_s (z_wk_e (z_wk_e (z_wk_e (z_wk_0)))))) (t_X6_both n G hG hb cx ce a0 S h))
def f_X6_comparison_83 (n : Nat) (G : GT_X6_either) (y0 : Int32) (S : z_Stt) : Option (Int32 × z_Stt) :=
  g_bd (f_X6_truth y0 S) fun v1 S2 =>
  some (v1, S2)
set_option maxHeartbeats 4000000 in
set_option maxRecDepth 100000 in
theorem t_X6_comparison_83 {g : z_G} {K : z_K} (n : Nat) (G : GT_X6_either) {d0 : Nat} (hG : HG_X6_either g G d0) (hb : 1 ≤ d0) {v : Int32} {S' : z_Stt} (cx : z_C g M_X6_comparison (d0 + 1) K) (ce : z_E' g M_X6_comparison (z_P g (some (.int v)) S') K) (y0 : Int32) (S : z_Stt) (h : f_X6_comparison_83 n G y0 S = some (v, S')) : z_At g M_X6_comparison K 83 [none, none, none] [.int y0] (hp g S) := by
  unfold f_X6_comparison_83 at h
  obtain ⟨v1, S2, e3, h⟩ := g_bd_ex h
  refine q_csi (As := [.int y0]) cx mo_X6_truth ms_X6_truth tb_355 (by omega) rfl rfl (Nat.le_of_ble_eq_true rfl) dX6_comparison_83 (c_X6_truth y0 _ e3) ?_
  obtain ⟨rfl, rfl⟩ := g_some h
  exact z_ireturn cx ce rfl ⟨rfl, rfl⟩ dX6_comparison_86
def f_X6_comparison_56 (n : Nat) (G : GT_X6_either) (y0 : Int32) (S : z_Stt) : Option (Int32 × z_Stt) :=
  g_bd (f_X6_truth y0 S) fun v1 S2 =>
  some (v1, S2)
set_option maxHeartbeats 4000000 in
set_option maxRecDepth 100000 in
theorem t_X6_comparison_56 {g : z_G} {K : z_K} (n : Nat) (G : GT_X6_either) {d0 : Nat} (hG : HG_X6_either g G d0) (hb : 1 ≤ d0) {v : Int32} {S' : z_Stt} (cx : z_C g M_X6_comparison (d0 + 1) K) (ce : z_E' g M_X6_comparison (z_P g (some (.int v)) S') K) (y0 : Int32) (S : z_Stt) (h : f_X6_comparison_56 n G y0 S = some (v, S')) : z_At g M_X6_comparison K 56 [none, none, none] [.int y0] (hp g S) := by
  unfold f_X6_comparison_56 at h
  obtain ⟨v1, S2, e3, h⟩ := g_bd_ex h
  refine q_csi (As := [.int y0]) cx mo_X6_truth ms_X6_truth tb_355 (by omega) rfl rfl (Nat.le_of_ble_eq_true rfl) dX6_comparison_56 (c_X6_truth y0 _ e3) ?_
  obtain ⟨rfl, rfl⟩ := g_some h
  exact z_ireturn cx ce rfl ⟨rfl, rfl⟩ dX6_comparison_59
def f_X6_comparison_29 (n : Nat) (G : GT_X6_either) (y0 : Int32) (S : z_Stt) : Option (Int32 × z_Stt) :=
  g_bd (f_X6_truth y0 S) fun v1 S2 =>
  some (v1, S2)
set_option maxHeartbeats 4000000 in
set_option maxRecDepth 100000 in
theorem t_X6_comparison_29 {g : z_G} {K : z_K} (n : Nat) (G : GT_X6_either) {d0 : Nat} (hG : HG_X6_either g G d0) (hb : 1 ≤ d0) {v : Int32} {S' : z_Stt} (cx : z_C g M_X6_comparison (d0 + 1) K) (ce : z_E' g M_X6_comparison (z_P g (some (.int v)) S') K) (y0 : Int32) (S : z_Stt) (h : f_X6_comparison_29 n G y0 S = some (v, S')) : z_At g M_X6_comparison K 29 [none, none, none] [.int y0] (hp g S) := by
  unfold f_X6_comparison_29 at h
  obtain ⟨v1, S2, e3, h⟩ := g_bd_ex h
  refine q_csi (As := [.int y0]) cx mo_X6_truth ms_X6_truth tb_355 (by omega) rfl rfl (Nat.le_of_ble_eq_true rfl) dX6_comparison_29 (c_X6_truth y0 _ e3) ?_
  obtain ⟨rfl, rfl⟩ := g_some h
  exact z_ireturn cx ce rfl ⟨rfl, rfl⟩ dX6_comparison_32
def f_X6_comparison (n : Nat) (G : GT_X6_either) (a0 : Int32) (S : z_Stt) : Option (Int32 × z_Stt) :=
  g_bd (G.2.2.2.1 a0 S) fun v1 S2 =>
  g_bd (f_X6_takes 60 S2) fun v4 S5 =>
  if v4 = true then
    g_bd (G.2.2.2.1 a0 S5) fun v24 S25 =>
    if v24 ≤ v1 then
      f_X6_comparison_29 n G 0 S25
    else
      f_X6_comparison_29 n G 1 S25
  else
    g_bd (f_X6_takes 61 S5) fun v8 S9 =>
    if v8 = true then
      g_bd (G.2.2.2.1 a0 S9) fun v20 S21 =>
      if v1 = v20 then
        f_X6_comparison_56 n G 1 S21
      else
        f_X6_comparison_56 n G 0 S21
    else
      g_bd (f_X6_takes 62 S9) fun v12 S13 =>
      if v12 = true then
        g_bd (G.2.2.2.1 a0 S13) fun v16 S17 =>
        if v1 ≤ v16 then
          f_X6_comparison_83 n G 0 S17
        else
          f_X6_comparison_83 n G 1 S17
      else
        some (v1, S13)
set_option maxHeartbeats 4000000 in
set_option maxRecDepth 100000 in
theorem t_X6_comparison {g : z_G} {K : z_K} (n : Nat) (G : GT_X6_either) {d0 : Nat} (hG : HG_X6_either g G d0) (hb : 1 ≤ d0) {v : Int32} {S' : z_Stt} (cx : z_C g M_X6_comparison (d0 + 1) K) (ce : z_E' g M_X6_comparison (z_P g (some (.int v)) S') K) (a0 : Int32) (S : z_Stt) (h : f_X6_comparison n G a0 S = some (v, S')) : z_At g M_X6_comparison K 0 [some (.ref (z_ad g 13)), some (.int a0), none] [] (hp g S) := by
  unfold f_X6_comparison at h
  refine z_aload_n cx rfl rfl dX6_comparison_0 ?_
  refine z_iload_n cx rfl rfl dX6_comparison_1 ?_
  obtain ⟨v1, S2, e3, h⟩ := g_bd_ex h
  refine q_cvi (As := [.int a0]) cx mo_X6_sum mv_X6_sum z_cl6 rfl tb_363 (Nat.le_refl _) rfl (by decide) rfl rfl (Nat.le_of_ble_eq_true rfl) dX6_comparison_2 (hG.2.2.2.1 a0 _ _ _ e3) ?_
  refine z_istore_n (L' := [some (.ref (z_ad g 13)), some (.int a0), some (.int v1)]) cx rfl (by decide) rfl dX6_comparison_5 ?_
  refine z_aload_n cx rfl rfl dX6_comparison_6 ?_
  refine z_bipush (v := 60) cx (by decide +kernel) dX6_comparison_7 ?_
  obtain ⟨v4, S5, e6, h⟩ := g_bd_ex h
  refine q_cvi (As := [.int 60]) cx mo_X6_takes mv_X6_takes z_cl6 rfl tb_340 (by omega) rfl (by decide) rfl rfl (Nat.le_of_ble_eq_true rfl) dX6_comparison_9 (c_X6_takes 60 _ e6) ?_
  refine q_ifb_eq (tgt := 33) cx (by decide) dX6_comparison_12 (fun c7 => ?_) (fun c7 => ?_)
  · have h := g_f (Bool.eq_false_iff.mp c7) h
    refine z_aload_n cx rfl rfl dX6_comparison_33 ?_
    refine z_bipush (v := 61) cx (by decide +kernel) dX6_comparison_34 ?_
    obtain ⟨v8, S9, e10, h⟩ := g_bd_ex h
    refine q_cvi (As := [.int 61]) cx mo_X6_takes mv_X6_takes z_cl6 rfl tb_340 (by omega) rfl (by decide) rfl rfl (Nat.le_of_ble_eq_true rfl) dX6_comparison_36 (c_X6_takes 61 _ e10) ?_
    refine q_ifb_eq (tgt := 60) cx (by decide) dX6_comparison_39 (fun c11 => ?_) (fun c11 => ?_)
    · have h := g_f (Bool.eq_false_iff.mp c11) h
      refine z_aload_n cx rfl rfl dX6_comparison_60 ?_
      refine z_bipush (v := 62) cx (by decide +kernel) dX6_comparison_61 ?_
      obtain ⟨v12, S13, e14, h⟩ := g_bd_ex h
      refine q_cvi (As := [.int 62]) cx mo_X6_takes mv_X6_takes z_cl6 rfl tb_340 (by omega) rfl (by decide) rfl rfl (Nat.le_of_ble_eq_true rfl) dX6_comparison_63 (c_X6_takes 62 _ e14) ?_
      refine q_ifb_eq (tgt := 87) cx (by decide) dX6_comparison_66 (fun c15 => ?_) (fun c15 => ?_)
      · have h := g_f (Bool.eq_false_iff.mp c15) h
        refine z_iload_n cx rfl rfl dX6_comparison_87 ?_
        obtain ⟨rfl, rfl⟩ := g_some h
        exact z_ireturn cx ce rfl ⟨rfl, rfl⟩ dX6_comparison_88
      · have h := g_t c15 h
        refine z_iload_n cx rfl rfl dX6_comparison_69 ?_
        refine z_aload_n cx rfl rfl dX6_comparison_70 ?_
        refine z_iload_n cx rfl rfl dX6_comparison_71 ?_
        obtain ⟨v16, S17, e18, h⟩ := g_bd_ex h
        refine q_cvi (As := [.int a0]) cx mo_X6_sum mv_X6_sum z_cl6 rfl tb_363 (Nat.le_refl _) rfl (by decide) rfl rfl (Nat.le_of_ble_eq_true rfl) dX6_comparison_72 (hG.2.2.2.1 a0 _ _ _ e18) ?_
        refine z_icmp_le (tgt := 82) cx (by decide) dX6_comparison_75 (fun c19 => ?_) (fun c19 => ?_)
        · have h := g_t c19 h
          refine z_iconst (v := 0) cx (by decide +kernel) dX6_comparison_82 ?_
          exact q_weak (z_wk_n (z_wk_n (z_wk_n (z_wk_0)))) (t_X6_comparison_83 n G hG hb cx ce 0 S17 h)
        · have h := g_f c19 h
          refine z_iconst (v := 1) cx (by decide +kernel) dX6_comparison_78 ?_
          refine z_goto (tgt := 83) cx (by decide) dX6_comparison_79 ?_
          exact q_weak (z_wk_n (z_wk_n (z_wk_n (z_wk_0)))) (t_X6_comparison_83 n G hG hb cx ce 1 S17 h)
    · have h := g_t c11 h
      refine z_iload_n cx rfl rfl dX6_comparison_42 ?_
      refine z_aload_n cx rfl rfl dX6_comparison_43 ?_
      refine z_iload_n cx rfl rfl dX6_comparison_44 ?_
      obtain ⟨v20, S21, e22, h⟩ := g_bd_ex h
      refine q_cvi (As := [.int a0]) cx mo_X6_sum mv_X6_sum z_cl6 rfl tb_363 (Nat.le_refl _) rfl (by decide) rfl rfl (Nat.le_of_ble_eq_true rfl) dX6_comparison_45 (hG.2.2.2.1 a0 _ _ _ e22) ?_
      refine z_icmp_ne (tgt := 55) cx (by decide) dX6_comparison_48 (fun c23 => ?_) (fun c23 => ?_)
      · have h := g_f c23 h
        refine z_iconst (v := 0) cx (by decide +kernel) dX6_comparison_55 ?_
        exact q_weak (z_wk_n (z_wk_n (z_wk_n (z_wk_0)))) (t_X6_comparison_56 n G hG hb cx ce 0 S21 h)
      · have h := g_t c23 h
        refine z_iconst (v := 1) cx (by decide +kernel) dX6_comparison_51 ?_
        refine z_goto (tgt := 56) cx (by decide) dX6_comparison_52 ?_
        exact q_weak (z_wk_n (z_wk_n (z_wk_n (z_wk_0)))) (t_X6_comparison_56 n G hG hb cx ce 1 S21 h)
  · have h := g_t c7 h
    refine z_iload_n cx rfl rfl dX6_comparison_15 ?_
    refine z_aload_n cx rfl rfl dX6_comparison_16 ?_
    refine z_iload_n cx rfl rfl dX6_comparison_17 ?_
    obtain ⟨v24, S25, e26, h⟩ := g_bd_ex h
    refine q_cvi (As := [.int a0]) cx mo_X6_sum mv_X6_sum z_cl6 rfl tb_363 (Nat.le_refl _) rfl (by decide) rfl rfl (Nat.le_of_ble_eq_true rfl) dX6_comparison_18 (hG.2.2.2.1 a0 _ _ _ e26) ?_
    refine z_icmp_ge (tgt := 28) cx (by decide) dX6_comparison_21 (fun c27 => ?_) (fun c27 => ?_)
    · have h := g_t c27 h
      refine z_iconst (v := 0) cx (by decide +kernel) dX6_comparison_28 ?_
      exact q_weak (z_wk_n (z_wk_n (z_wk_n (z_wk_0)))) (t_X6_comparison_29 n G hG hb cx ce 0 S25 h)
    · have h := g_f c27 h
      refine z_iconst (v := 1) cx (by decide +kernel) dX6_comparison_24 ?_
      refine z_goto (tgt := 29) cx (by decide) dX6_comparison_25 ?_
      exact q_weak (z_wk_n (z_wk_n (z_wk_n (z_wk_0)))) (t_X6_comparison_29 n G hG hb cx ce 1 S25 h)
theorem c_X6_comparison {g : z_G} {n : Nat} {G : GT_X6_either} {d0 : Nat} (hG : HG_X6_either g G d0) (hb : 1 ≤ d0) (a0 : Int32) (S : z_Stt) {v : Int32} {S' : z_Stt} (h : f_X6_comparison n G a0 S = some (v, S')) : z_Ct g M_X6_comparison (d0 + 1) [.ref (z_ad g 13), .int a0] (hp g S) (z_P g (some (.int v)) S') :=
  z_Ct.of (by decide +kernel) rfl (Nat.le_of_ble_eq_true rfl) (fun K cx ce => q_weak (L' := [some (.ref (z_ad g 13)), some (.int a0), none]) (z_wk_s (z_wk_s (z_wk_e (z_wk_0)))) (t_X6_comparison n G hG hb cx ce a0 S h))
def f_X6_sum_56 (n : Nat) (G : GT_X6_either) (k8 : Int32 → Int32 → Int32 → z_Stt → Option (Int32 × z_Stt)) (x1 : Int32) (x2 : Int32) (x3 : Int32) (S : z_Stt) : Option (Int32 × z_Stt) :=
  k8 x1 x2 (x3 + 1) S
set_option maxHeartbeats 4000000 in
set_option maxRecDepth 100000 in
theorem t_X6_sum_56 {g : z_G} {K : z_K} (n : Nat) (G : GT_X6_either) {d0 : Nat} (hG : HG_X6_either g G d0) (hb : 1 ≤ d0) {v : Int32} {S' : z_Stt} (cx : z_C g M_X6_sum (d0 + 1) K) (ce : z_E' g M_X6_sum (z_P g (some (.int v)) S') K) (k8 : Int32 → Int32 → Int32 → z_Stt → Option (Int32 × z_Stt)) (hk8 : ∀ (x1 : Int32) (x2 : Int32) (x3 : Int32) (S : z_Stt), k8 x1 x2 x3 S = some (v, S') → z_At g M_X6_sum K 8 [some (.ref (z_ad g 13)), some (.int x1), some (.int x2), some (.int x3)] [] (hp g S)) (x1 : Int32) (x2 : Int32) (x3 : Int32) (S : z_Stt) (h : f_X6_sum_56 n G k8 x1 x2 x3 S = some (v, S')) : z_At g M_X6_sum K 56 [some (.ref (z_ad g 13)), some (.int x1), some (.int x2), some (.int x3)] [] (hp g S) := by
  unfold f_X6_sum_56 at h
  refine z_iinc (c := 1) (L' := [some (.ref (z_ad g 13)), some (.int x1), some (.int x2), some (.int (x3 + 1))]) cx rfl (by decide +kernel) (by decide) rfl dX6_sum_56 ?_
  refine z_goto (tgt := 8) cx (by decide) dX6_sum_59 ?_
  exact q_weak (z_wk_s (z_wk_s (z_wk_s (z_wk_s (z_wk_0))))) (hk8 x1 x2 (x3 + 1) S h)
def f_X6_sum_8 (n : Nat) (G : GT_X6_either) : Nat → Int32 → Int32 → Int32 → z_Stt → Option (Int32 × z_Stt)
  | 0, _, _, _, _ => none
  | m + 1, x1, x2, x3, S =>
    if 120 ≤ x3 then
      some (x2, S)
    else
      g_bd (f_X6_takes 43 S) fun v2 S3 =>
      if v2 = true then
        g_bd (G.2.2.2.2.1 x1 S3) fun v13 S14 =>
        f_X6_sum_56 n G (f_X6_sum_8 n G m) x1 (x2 + v13) x3 S14
      else
        g_bd (f_X6_takes 45 S3) fun v6 S7 =>
        if v6 = true then
          g_bd (G.2.2.2.2.1 x1 S7) fun v10 S11 =>
          f_X6_sum_56 n G (f_X6_sum_8 n G m) x1 (x2 - v10) x3 S11
        else
          some (x2, S7)
set_option maxHeartbeats 4000000 in
set_option maxRecDepth 100000 in
theorem t_X6_sum_8 {g : z_G} {K : z_K} (n : Nat) (G : GT_X6_either) {d0 : Nat} (hG : HG_X6_either g G d0) (hb : 1 ≤ d0) {v : Int32} {S' : z_Stt} (cx : z_C g M_X6_sum (d0 + 1) K) (ce : z_E' g M_X6_sum (z_P g (some (.int v)) S') K) : ∀ (m : Nat) (x1 : Int32) (x2 : Int32) (x3 : Int32) (S : z_Stt) (h : f_X6_sum_8 n G m x1 x2 x3 S = some (v, S')), z_At g M_X6_sum K 8 [some (.ref (z_ad g 13)), some (.int x1), some (.int x2), some (.int x3)] [] (hp g S) := by
  intro m
  induction m with
  | zero => intro x1 x2 x3 S h; simp [f_X6_sum_8] at h
  | succ m ih =>
    intro x1 x2 x3 S h
    rw [f_X6_sum_8] at h
    refine z_iload_n cx rfl rfl dX6_sum_8 ?_
    refine z_bipush (v := 120) cx (by decide +kernel) dX6_sum_9 ?_
    refine z_icmp_ge (tgt := 62) cx (by decide) dX6_sum_11 (fun c1 => ?_) (fun c1 => ?_)
    · have h := g_t c1 h
      refine z_iload_n cx rfl rfl dX6_sum_62 ?_
      obtain ⟨rfl, rfl⟩ := g_some h
      exact z_ireturn cx ce rfl ⟨rfl, rfl⟩ dX6_sum_63
    · have h := g_f c1 h
      refine z_aload_n cx rfl rfl dX6_sum_14 ?_
      refine z_bipush (v := 43) cx (by decide +kernel) dX6_sum_15 ?_
      obtain ⟨v2, S3, e4, h⟩ := g_bd_ex h
      refine q_cvi (As := [.int 43]) cx mo_X6_takes mv_X6_takes z_cl6 rfl tb_340 (by omega) rfl (by decide) rfl rfl (Nat.le_of_ble_eq_true rfl) dX6_sum_17 (c_X6_takes 43 _ e4) ?_
      refine q_ifb_eq (tgt := 34) cx (by decide) dX6_sum_20 (fun c5 => ?_) (fun c5 => ?_)
      · have h := g_f (Bool.eq_false_iff.mp c5) h
        refine z_aload_n cx rfl rfl dX6_sum_34 ?_
        refine z_bipush (v := 45) cx (by decide +kernel) dX6_sum_35 ?_
        obtain ⟨v6, S7, e8, h⟩ := g_bd_ex h
        refine q_cvi (As := [.int 45]) cx mo_X6_takes mv_X6_takes z_cl6 rfl tb_340 (by omega) rfl (by decide) rfl rfl (Nat.le_of_ble_eq_true rfl) dX6_sum_37 (c_X6_takes 45 _ e8) ?_
        refine q_ifb_eq (tgt := 54) cx (by decide) dX6_sum_40 (fun c9 => ?_) (fun c9 => ?_)
        · have h := g_f (Bool.eq_false_iff.mp c9) h
          refine z_iload_n cx rfl rfl dX6_sum_54 ?_
          obtain ⟨rfl, rfl⟩ := g_some h
          exact z_ireturn cx ce rfl ⟨rfl, rfl⟩ dX6_sum_55
        · have h := g_t c9 h
          refine z_iload_n cx rfl rfl dX6_sum_43 ?_
          refine z_aload_n cx rfl rfl dX6_sum_44 ?_
          refine z_iload_n cx rfl rfl dX6_sum_45 ?_
          obtain ⟨v10, S11, e12, h⟩ := g_bd_ex h
          refine q_cvi (As := [.int x1]) cx mo_X6_product mv_X6_product z_cl6 rfl tb_383 (Nat.le_refl _) rfl (by decide) rfl rfl (Nat.le_of_ble_eq_true rfl) dX6_sum_46 (hG.2.2.2.2.1 x1 _ _ _ e12) ?_
          refine z_isub cx dX6_sum_49 ?_
          refine z_istore_n (L' := [some (.ref (z_ad g 13)), some (.int x1), some (.int (x2 - v10)), some (.int x3)]) cx rfl (by decide) rfl dX6_sum_50 ?_
          refine z_goto (tgt := 56) cx (by decide) dX6_sum_51 ?_
          exact q_weak (z_wk_s (z_wk_s (z_wk_s (z_wk_s (z_wk_0))))) (t_X6_sum_56 n G hG hb cx ce (f_X6_sum_8 n G m) ih x1 (x2 - v10) x3 S11 h)
      · have h := g_t c5 h
        refine z_iload_n cx rfl rfl dX6_sum_23 ?_
        refine z_aload_n cx rfl rfl dX6_sum_24 ?_
        refine z_iload_n cx rfl rfl dX6_sum_25 ?_
        obtain ⟨v13, S14, e15, h⟩ := g_bd_ex h
        refine q_cvi (As := [.int x1]) cx mo_X6_product mv_X6_product z_cl6 rfl tb_383 (Nat.le_refl _) rfl (by decide) rfl rfl (Nat.le_of_ble_eq_true rfl) dX6_sum_26 (hG.2.2.2.2.1 x1 _ _ _ e15) ?_
        refine z_iadd cx dX6_sum_29 ?_
        refine z_istore_n (L' := [some (.ref (z_ad g 13)), some (.int x1), some (.int (x2 + v13)), some (.int x3)]) cx rfl (by decide) rfl dX6_sum_30 ?_
        refine z_goto (tgt := 56) cx (by decide) dX6_sum_31 ?_
        exact q_weak (z_wk_s (z_wk_s (z_wk_s (z_wk_s (z_wk_0))))) (t_X6_sum_56 n G hG hb cx ce (f_X6_sum_8 n G m) ih x1 (x2 + v13) x3 S14 h)
def f_X6_sum (n : Nat) (G : GT_X6_either) (a0 : Int32) (S : z_Stt) : Option (Int32 × z_Stt) :=
  g_bd (G.2.2.2.2.1 a0 S) fun v1 S2 =>
  f_X6_sum_8 n G n a0 v1 0 S2
set_option maxHeartbeats 4000000 in
set_option maxRecDepth 100000 in
theorem t_X6_sum {g : z_G} {K : z_K} (n : Nat) (G : GT_X6_either) {d0 : Nat} (hG : HG_X6_either g G d0) (hb : 1 ≤ d0) {v : Int32} {S' : z_Stt} (cx : z_C g M_X6_sum (d0 + 1) K) (ce : z_E' g M_X6_sum (z_P g (some (.int v)) S') K) (a0 : Int32) (S : z_Stt) (h : f_X6_sum n G a0 S = some (v, S')) : z_At g M_X6_sum K 0 [some (.ref (z_ad g 13)), some (.int a0), none, none] [] (hp g S) := by
  unfold f_X6_sum at h
  refine z_aload_n cx rfl rfl dX6_sum_0 ?_
  refine z_iload_n cx rfl rfl dX6_sum_1 ?_
  obtain ⟨v1, S2, e3, h⟩ := g_bd_ex h
  refine q_cvi (As := [.int a0]) cx mo_X6_product mv_X6_product z_cl6 rfl tb_383 (Nat.le_refl _) rfl (by decide) rfl rfl (Nat.le_of_ble_eq_true rfl) dX6_sum_2 (hG.2.2.2.2.1 a0 _ _ _ e3) ?_
  refine z_istore_n (L' := [some (.ref (z_ad g 13)), some (.int a0), some (.int v1), none]) cx rfl (by decide) rfl dX6_sum_5 ?_
  refine z_iconst (v := 0) cx (by decide +kernel) dX6_sum_6 ?_
  refine z_istore_n (L' := [some (.ref (z_ad g 13)), some (.int a0), some (.int v1), some (.int 0)]) cx rfl (by decide) rfl dX6_sum_7 ?_
  exact q_weak (z_wk_s (z_wk_s (z_wk_s (z_wk_s (z_wk_0))))) (t_X6_sum_8 n G hG hb cx ce n a0 v1 0 S2 h)
theorem c_X6_sum {g : z_G} {n : Nat} {G : GT_X6_either} {d0 : Nat} (hG : HG_X6_either g G d0) (hb : 1 ≤ d0) (a0 : Int32) (S : z_Stt) {v : Int32} {S' : z_Stt} (h : f_X6_sum n G a0 S = some (v, S')) : z_Ct g M_X6_sum (d0 + 1) [.ref (z_ad g 13), .int a0] (hp g S) (z_P g (some (.int v)) S') :=
  z_Ct.of (by decide +kernel) rfl (Nat.le_of_ble_eq_true rfl) (fun K cx ce => q_weak (L' := [some (.ref (z_ad g 13)), some (.int a0), none, none]) (z_wk_s (z_wk_s (z_wk_e (z_wk_e (z_wk_0))))) (t_X6_sum n G hG hb cx ce a0 S h))
def f_X6_product_102 (n : Nat) (G : GT_X6_either) (k8 : Int32 → Int32 → Int32 → z_Stt → Option (Int32 × z_Stt)) (x1 : Int32) (x2 : Int32) (x3 : Int32) (S : z_Stt) : Option (Int32 × z_Stt) :=
  k8 x1 x2 (x3 + 1) S
set_option maxHeartbeats 4000000 in
set_option maxRecDepth 100000 in
theorem t_X6_product_102 {g : z_G} {K : z_K} (n : Nat) (G : GT_X6_either) {d0 : Nat} (hG : HG_X6_either g G d0) (hb : 1 ≤ d0) {v : Int32} {S' : z_Stt} (cx : z_C g M_X6_product (d0 + 1) K) (ce : z_E' g M_X6_product (z_P g (some (.int v)) S') K) (k8 : Int32 → Int32 → Int32 → z_Stt → Option (Int32 × z_Stt)) (hk8 : ∀ (x1 : Int32) (x2 : Int32) (x3 : Int32) (S : z_Stt), k8 x1 x2 x3 S = some (v, S') → z_At g M_X6_product K 8 [some (.ref (z_ad g 13)), some (.int x1), some (.int x2), some (.int x3), none] [] (hp g S)) (x1 : Int32) (x2 : Int32) (x3 : Int32) (S : z_Stt) (h : f_X6_product_102 n G k8 x1 x2 x3 S = some (v, S')) : z_At g M_X6_product K 102 [some (.ref (z_ad g 13)), some (.int x1), some (.int x2), some (.int x3), none] [] (hp g S) := by
  unfold f_X6_product_102 at h
  refine z_iinc (c := 1) (L' := [some (.ref (z_ad g 13)), some (.int x1), some (.int x2), some (.int (x3 + 1)), none]) cx rfl (by decide +kernel) (by decide) rfl dX6_product_102 ?_
  refine z_goto (tgt := 8) cx (by decide) dX6_product_105 ?_
  exact q_weak (z_wk_s (z_wk_s (z_wk_s (z_wk_s (z_wk_n (z_wk_0)))))) (hk8 x1 x2 (x3 + 1) S h)
def f_X6_product_96 (n : Nat) (G : GT_X6_either) (k8 : Int32 → Int32 → Int32 → z_Stt → Option (Int32 × z_Stt)) (x1 : Int32) (x3 : Int32) (y0 : Int32) (S : z_Stt) : Option (Int32 × z_Stt) :=
  f_X6_product_102 n G k8 x1 y0 x3 S
set_option maxHeartbeats 4000000 in
set_option maxRecDepth 100000 in
theorem t_X6_product_96 {g : z_G} {K : z_K} (n : Nat) (G : GT_X6_either) {d0 : Nat} (hG : HG_X6_either g G d0) (hb : 1 ≤ d0) {v : Int32} {S' : z_Stt} (cx : z_C g M_X6_product (d0 + 1) K) (ce : z_E' g M_X6_product (z_P g (some (.int v)) S') K) (k8 : Int32 → Int32 → Int32 → z_Stt → Option (Int32 × z_Stt)) (hk8 : ∀ (x1 : Int32) (x2 : Int32) (x3 : Int32) (S : z_Stt), k8 x1 x2 x3 S = some (v, S') → z_At g M_X6_product K 8 [some (.ref (z_ad g 13)), some (.int x1), some (.int x2), some (.int x3), none] [] (hp g S)) (x1 : Int32) (x3 : Int32) (y0 : Int32) (S : z_Stt) (h : f_X6_product_96 n G k8 x1 x3 y0 S = some (v, S')) : z_At g M_X6_product K 96 [some (.ref (z_ad g 13)), some (.int x1), none, some (.int x3), none] [.int y0] (hp g S) := by
  unfold f_X6_product_96 at h
  refine z_istore_n (L' := [some (.ref (z_ad g 13)), some (.int x1), some (.int y0), some (.int x3), none]) cx rfl (by decide) rfl dX6_product_96 ?_
  refine z_goto (tgt := 102) cx (by decide) dX6_product_97 ?_
  exact q_weak (z_wk_s (z_wk_s (z_wk_s (z_wk_s (z_wk_n (z_wk_0)))))) (t_X6_product_102 n G hG hb cx ce k8 hk8 x1 y0 x3 S h)
def f_X6_product_63 (n : Nat) (G : GT_X6_either) (k8 : Int32 → Int32 → Int32 → z_Stt → Option (Int32 × z_Stt)) (x1 : Int32) (x3 : Int32) (y0 : Int32) (S : z_Stt) : Option (Int32 × z_Stt) :=
  f_X6_product_102 n G k8 x1 y0 x3 S
set_option maxHeartbeats 4000000 in
set_option maxRecDepth 100000 in
theorem t_X6_product_63 {g : z_G} {K : z_K} (n : Nat) (G : GT_X6_either) {d0 : Nat} (hG : HG_X6_either g G d0) (hb : 1 ≤ d0) {v : Int32} {S' : z_Stt} (cx : z_C g M_X6_product (d0 + 1) K) (ce : z_E' g M_X6_product (z_P g (some (.int v)) S') K) (k8 : Int32 → Int32 → Int32 → z_Stt → Option (Int32 × z_Stt)) (hk8 : ∀ (x1 : Int32) (x2 : Int32) (x3 : Int32) (S : z_Stt), k8 x1 x2 x3 S = some (v, S') → z_At g M_X6_product K 8 [some (.ref (z_ad g 13)), some (.int x1), some (.int x2), some (.int x3), none] [] (hp g S)) (x1 : Int32) (x3 : Int32) (y0 : Int32) (S : z_Stt) (h : f_X6_product_63 n G k8 x1 x3 y0 S = some (v, S')) : z_At g M_X6_product K 63 [some (.ref (z_ad g 13)), some (.int x1), none, some (.int x3), none] [.int y0] (hp g S) := by
  unfold f_X6_product_63 at h
  refine z_istore_n (L' := [some (.ref (z_ad g 13)), some (.int x1), some (.int y0), some (.int x3), none]) cx rfl (by decide) rfl dX6_product_63 ?_
  refine z_goto (tgt := 102) cx (by decide) dX6_product_64 ?_
  exact q_weak (z_wk_s (z_wk_s (z_wk_s (z_wk_s (z_wk_n (z_wk_0)))))) (t_X6_product_102 n G hG hb cx ce k8 hk8 x1 y0 x3 S h)
def f_X6_product_8 (n : Nat) (G : GT_X6_either) : Nat → Int32 → Int32 → Int32 → z_Stt → Option (Int32 × z_Stt)
  | 0, _, _, _, _ => none
  | m + 1, x1, x2, x3, S =>
    if 120 ≤ x3 then
      some (x2, S)
    else
      g_bd (f_X6_takes 42 S) fun v2 S3 =>
      if v2 = true then
        g_bd (G.2.2.2.2.2 x1 S3) fun v24 S25 =>
        f_X6_product_102 n G (f_X6_product_8 n G m) x1 (x2 * v24) x3 S25
      else
        g_bd (f_X6_takes 47 S3) fun v6 S7 =>
        if v6 = true then
          g_bd (G.2.2.2.2.2 x1 S7) fun v19 S20 =>
          if v19 = 0 then
            f_X6_product_63 n G (f_X6_product_8 n G m) x1 x3 0 S20
          else
            if ¬ v19 = 0 then
              f_X6_product_63 n G (f_X6_product_8 n G m) x1 x3 (x2 / v19) S20
            else none
        else
          g_bd (f_X6_takes 37 S7) fun v10 S11 =>
          if v10 = true then
            g_bd (G.2.2.2.2.2 x1 S11) fun v14 S15 =>
            if v14 = 0 then
              f_X6_product_96 n G (f_X6_product_8 n G m) x1 x3 0 S15
            else
              if ¬ v14 = 0 then
                f_X6_product_96 n G (f_X6_product_8 n G m) x1 x3 (x2 % v14) S15
              else none
          else
            some (x2, S11)
set_option maxHeartbeats 4000000 in
set_option maxRecDepth 100000 in
theorem t_X6_product_8 {g : z_G} {K : z_K} (n : Nat) (G : GT_X6_either) {d0 : Nat} (hG : HG_X6_either g G d0) (hb : 1 ≤ d0) {v : Int32} {S' : z_Stt} (cx : z_C g M_X6_product (d0 + 1) K) (ce : z_E' g M_X6_product (z_P g (some (.int v)) S') K) : ∀ (m : Nat) (x1 : Int32) (x2 : Int32) (x3 : Int32) (S : z_Stt) (h : f_X6_product_8 n G m x1 x2 x3 S = some (v, S')), z_At g M_X6_product K 8 [some (.ref (z_ad g 13)), some (.int x1), some (.int x2), some (.int x3), none] [] (hp g S) := by
  intro m
  induction m with
  | zero => intro x1 x2 x3 S h; simp [f_X6_product_8] at h
  | succ m ih =>
    intro x1 x2 x3 S h
    rw [f_X6_product_8] at h
    refine z_iload_n cx rfl rfl dX6_product_8 ?_
    refine z_bipush (v := 120) cx (by decide +kernel) dX6_product_9 ?_
    refine z_icmp_ge (tgt := 108) cx (by decide) dX6_product_11 (fun c1 => ?_) (fun c1 => ?_)
    · have h := g_t c1 h
      refine z_iload_n cx rfl rfl dX6_product_108 ?_
      obtain ⟨rfl, rfl⟩ := g_some h
      exact z_ireturn cx ce rfl ⟨rfl, rfl⟩ dX6_product_109
    · have h := g_f c1 h
      refine z_aload_n cx rfl rfl dX6_product_14 ?_
      refine z_bipush (v := 42) cx (by decide +kernel) dX6_product_15 ?_
      obtain ⟨v2, S3, e4, h⟩ := g_bd_ex h
      refine q_cvi (As := [.int 42]) cx mo_X6_takes mv_X6_takes z_cl6 rfl tb_340 (by omega) rfl (by decide) rfl rfl (Nat.le_of_ble_eq_true rfl) dX6_product_17 (c_X6_takes 42 _ e4) ?_
      refine q_ifb_eq (tgt := 34) cx (by decide) dX6_product_20 (fun c5 => ?_) (fun c5 => ?_)
      · have h := g_f (Bool.eq_false_iff.mp c5) h
        refine z_aload_n cx rfl rfl dX6_product_34 ?_
        refine z_bipush (v := 47) cx (by decide +kernel) dX6_product_35 ?_
        obtain ⟨v6, S7, e8, h⟩ := g_bd_ex h
        refine q_cvi (As := [.int 47]) cx mo_X6_takes mv_X6_takes z_cl6 rfl tb_340 (by omega) rfl (by decide) rfl rfl (Nat.le_of_ble_eq_true rfl) dX6_product_37 (c_X6_takes 47 _ e8) ?_
        refine q_ifb_eq (tgt := 67) cx (by decide) dX6_product_40 (fun c9 => ?_) (fun c9 => ?_)
        · have h := g_f (Bool.eq_false_iff.mp c9) h
          refine z_aload_n cx rfl rfl dX6_product_67 ?_
          refine z_bipush (v := 37) cx (by decide +kernel) dX6_product_68 ?_
          obtain ⟨v10, S11, e12, h⟩ := g_bd_ex h
          refine q_cvi (As := [.int 37]) cx mo_X6_takes mv_X6_takes z_cl6 rfl tb_340 (by omega) rfl (by decide) rfl rfl (Nat.le_of_ble_eq_true rfl) dX6_product_70 (c_X6_takes 37 _ e12) ?_
          refine q_ifb_eq (tgt := 100) cx (by decide) dX6_product_73 (fun c13 => ?_) (fun c13 => ?_)
          · have h := g_f (Bool.eq_false_iff.mp c13) h
            refine z_iload_n cx rfl rfl dX6_product_100 ?_
            obtain ⟨rfl, rfl⟩ := g_some h
            exact z_ireturn cx ce rfl ⟨rfl, rfl⟩ dX6_product_101
          · have h := g_t c13 h
            refine z_aload_n cx rfl rfl dX6_product_76 ?_
            refine z_iload_n cx rfl rfl dX6_product_77 ?_
            obtain ⟨v14, S15, e16, h⟩ := g_bd_ex h
            refine q_cvi (As := [.int x1]) cx mo_X6_operand mv_X6_operand z_cl6 rfl tb_378 (Nat.le_refl _) rfl (by decide) rfl rfl (Nat.le_of_ble_eq_true rfl) dX6_product_78 (hG.2.2.2.2.2 x1 _ _ _ e16) ?_
            refine z_istore (L' := [some (.ref (z_ad g 13)), some (.int x1), some (.int x2), some (.int x3), some (.int v14)]) cx (by decide) rfl dX6_product_81 ?_
            refine z_iload cx rfl dX6_product_83 ?_
            refine z_if_ne (tgt := 92) cx (by decide) dX6_product_85 (fun c17 => ?_) (fun c17 => ?_)
            · have h := g_f c17 h
              refine z_iload_n cx rfl rfl dX6_product_92 ?_
              refine z_iload cx rfl dX6_product_93 ?_
              obtain ⟨c18, h⟩ := g_if h
              refine z_irem cx c18 dX6_product_95 ?_
              exact q_weak (z_wk_s (z_wk_s (z_wk_n (z_wk_s (z_wk_n (z_wk_0)))))) (t_X6_product_96 n G hG hb cx ce (f_X6_product_8 n G m) ih x1 x3 (x2 % v14) S15 h)
            · have h := g_t c17 h
              refine z_iconst (v := 0) cx (by decide +kernel) dX6_product_88 ?_
              refine z_goto (tgt := 96) cx (by decide) dX6_product_89 ?_
              exact q_weak (z_wk_s (z_wk_s (z_wk_n (z_wk_s (z_wk_n (z_wk_0)))))) (t_X6_product_96 n G hG hb cx ce (f_X6_product_8 n G m) ih x1 x3 0 S15 h)
        · have h := g_t c9 h
          refine z_aload_n cx rfl rfl dX6_product_43 ?_
          refine z_iload_n cx rfl rfl dX6_product_44 ?_
          obtain ⟨v19, S20, e21, h⟩ := g_bd_ex h
          refine q_cvi (As := [.int x1]) cx mo_X6_operand mv_X6_operand z_cl6 rfl tb_378 (Nat.le_refl _) rfl (by decide) rfl rfl (Nat.le_of_ble_eq_true rfl) dX6_product_45 (hG.2.2.2.2.2 x1 _ _ _ e21) ?_
          refine z_istore (L' := [some (.ref (z_ad g 13)), some (.int x1), some (.int x2), some (.int x3), some (.int v19)]) cx (by decide) rfl dX6_product_48 ?_
          refine z_iload cx rfl dX6_product_50 ?_
          refine z_if_ne (tgt := 59) cx (by decide) dX6_product_52 (fun c22 => ?_) (fun c22 => ?_)
          · have h := g_f c22 h
            refine z_iload_n cx rfl rfl dX6_product_59 ?_
            refine z_iload cx rfl dX6_product_60 ?_
            obtain ⟨c23, h⟩ := g_if h
            refine z_idiv cx c23 dX6_product_62 ?_
            exact q_weak (z_wk_s (z_wk_s (z_wk_n (z_wk_s (z_wk_n (z_wk_0)))))) (t_X6_product_63 n G hG hb cx ce (f_X6_product_8 n G m) ih x1 x3 (x2 / v19) S20 h)
          · have h := g_t c22 h
            refine z_iconst (v := 0) cx (by decide +kernel) dX6_product_55 ?_
            refine z_goto (tgt := 63) cx (by decide) dX6_product_56 ?_
            exact q_weak (z_wk_s (z_wk_s (z_wk_n (z_wk_s (z_wk_n (z_wk_0)))))) (t_X6_product_63 n G hG hb cx ce (f_X6_product_8 n G m) ih x1 x3 0 S20 h)
      · have h := g_t c5 h
        refine z_iload_n cx rfl rfl dX6_product_23 ?_
        refine z_aload_n cx rfl rfl dX6_product_24 ?_
        refine z_iload_n cx rfl rfl dX6_product_25 ?_
        obtain ⟨v24, S25, e26, h⟩ := g_bd_ex h
        refine q_cvi (As := [.int x1]) cx mo_X6_operand mv_X6_operand z_cl6 rfl tb_378 (Nat.le_refl _) rfl (by decide) rfl rfl (Nat.le_of_ble_eq_true rfl) dX6_product_26 (hG.2.2.2.2.2 x1 _ _ _ e26) ?_
        refine z_imul cx dX6_product_29 ?_
        refine z_istore_n (L' := [some (.ref (z_ad g 13)), some (.int x1), some (.int (x2 * v24)), some (.int x3), none]) cx rfl (by decide) rfl dX6_product_30 ?_
        refine z_goto (tgt := 102) cx (by decide) dX6_product_31 ?_
        exact q_weak (z_wk_s (z_wk_s (z_wk_s (z_wk_s (z_wk_n (z_wk_0)))))) (t_X6_product_102 n G hG hb cx ce (f_X6_product_8 n G m) ih x1 (x2 * v24) x3 S25 h)
def f_X6_product (n : Nat) (G : GT_X6_either) (a0 : Int32) (S : z_Stt) : Option (Int32 × z_Stt) :=
  g_bd (G.2.2.2.2.2 a0 S) fun v1 S2 =>
  f_X6_product_8 n G n a0 v1 0 S2
set_option maxHeartbeats 4000000 in
set_option maxRecDepth 100000 in
theorem t_X6_product {g : z_G} {K : z_K} (n : Nat) (G : GT_X6_either) {d0 : Nat} (hG : HG_X6_either g G d0) (hb : 1 ≤ d0) {v : Int32} {S' : z_Stt} (cx : z_C g M_X6_product (d0 + 1) K) (ce : z_E' g M_X6_product (z_P g (some (.int v)) S') K) (a0 : Int32) (S : z_Stt) (h : f_X6_product n G a0 S = some (v, S')) : z_At g M_X6_product K 0 [some (.ref (z_ad g 13)), some (.int a0), none, none, none] [] (hp g S) := by
  unfold f_X6_product at h
  refine z_aload_n cx rfl rfl dX6_product_0 ?_
  refine z_iload_n cx rfl rfl dX6_product_1 ?_
  obtain ⟨v1, S2, e3, h⟩ := g_bd_ex h
  refine q_cvi (As := [.int a0]) cx mo_X6_operand mv_X6_operand z_cl6 rfl tb_378 (Nat.le_refl _) rfl (by decide) rfl rfl (Nat.le_of_ble_eq_true rfl) dX6_product_2 (hG.2.2.2.2.2 a0 _ _ _ e3) ?_
  refine z_istore_n (L' := [some (.ref (z_ad g 13)), some (.int a0), some (.int v1), none, none]) cx rfl (by decide) rfl dX6_product_5 ?_
  refine z_iconst (v := 0) cx (by decide +kernel) dX6_product_6 ?_
  refine z_istore_n (L' := [some (.ref (z_ad g 13)), some (.int a0), some (.int v1), some (.int 0), none]) cx rfl (by decide) rfl dX6_product_7 ?_
  exact q_weak (z_wk_s (z_wk_s (z_wk_s (z_wk_s (z_wk_n (z_wk_0)))))) (t_X6_product_8 n G hG hb cx ce n a0 v1 0 S2 h)
theorem c_X6_product {g : z_G} {n : Nat} {G : GT_X6_either} {d0 : Nat} (hG : HG_X6_either g G d0) (hb : 1 ≤ d0) (a0 : Int32) (S : z_Stt) {v : Int32} {S' : z_Stt} (h : f_X6_product n G a0 S = some (v, S')) : z_Ct g M_X6_product (d0 + 1) [.ref (z_ad g 13), .int a0] (hp g S) (z_P g (some (.int v)) S') :=
  z_Ct.of (by decide +kernel) rfl (Nat.le_of_ble_eq_true rfl) (fun K cx ce => q_weak (L' := [some (.ref (z_ad g 13)), some (.int a0), none, none, none]) (z_wk_s (z_wk_s (z_wk_e (z_wk_e (z_wk_e (z_wk_0)))))) (t_X6_product n G hG hb cx ce a0 S h))
def f_X6_operand_83 (n : Nat) (G : GT_X6_either) (y0 : Int32) (S : z_Stt) : Option (Int32 × z_Stt) :=
  g_bd (f_X6_truth y0 S) fun v1 S2 =>
  some (v1, S2)
set_option maxHeartbeats 4000000 in
set_option maxRecDepth 100000 in
theorem t_X6_operand_83 {g : z_G} {K : z_K} (n : Nat) (G : GT_X6_either) {d0 : Nat} (hG : HG_X6_either g G d0) (hb : 1 ≤ d0) {v : Int32} {S' : z_Stt} (cx : z_C g M_X6_operand (d0 + 1) K) (ce : z_E' g M_X6_operand (z_P g (some (.int v)) S') K) (y0 : Int32) (S : z_Stt) (h : f_X6_operand_83 n G y0 S = some (v, S')) : z_At g M_X6_operand K 83 [none, none, none, none, none] [.int y0] (hp g S) := by
  unfold f_X6_operand_83 at h
  obtain ⟨v1, S2, e3, h⟩ := g_bd_ex h
  refine q_csi (As := [.int y0]) cx mo_X6_truth ms_X6_truth tb_355 (by omega) rfl rfl (Nat.le_of_ble_eq_true rfl) dX6_operand_83 (c_X6_truth y0 _ e3) ?_
  obtain ⟨rfl, rfl⟩ := g_some h
  exact z_ireturn cx ce rfl ⟨rfl, rfl⟩ dX6_operand_86
def f_X6_operand_22 (n : Nat) (G : GT_X6_either) (x1 : Int32) (x2 : Int32) (S : z_Stt) : Option (Int32 × z_Stt) :=
  g_bd (f_X6_nameOf x2 S) fun v1 S2 =>
  if v1 < 0 then
    if x1 < 6 then
      g_bd (f_X6_takes 33 S2) fun v6 S7 =>
      if v6 = true then
        g_bd (G.2.2.2.2.2 (x1 + 1) S7) fun v34 S35 =>
        if v34 = 0 then
          f_X6_operand_83 n G 1 S35
        else
          f_X6_operand_83 n G 0 S35
      else
        g_bd (f_X6_takes 45 S7) fun v10 S11 =>
        if v10 = true then
          g_bd (G.2.2.2.2.2 (x1 + 1) S11) fun v31 S32 =>
          some (-v31, S32)
        else
          g_bd (f_X6_takes 40 S11) fun v14 S15 =>
          if v14 = true then
            g_bd (G.1 (x1 + 1) S15) fun v18 S19 =>
            g_bd (f_X6_takes 41 S19) fun v21 S22 =>
            if v21 = true then
              some (v18, S22)
            else
              g_bd (f_X6_fails S22) fun v25 S26 =>
              some (v25, S26)
          else
            g_bd (f_X6_fails S15) fun v28 S29 =>
            some (v28, S29)
    else
      g_bd (f_X6_fails S2) fun v38 S39 =>
      some (v38, S39)
  else
    g_let (sI S2 1305 ((S2.1 1305) + 1)) fun S41 =>
    if ¬ (v1 < 0 ∨ 6 ≤ v1.toNatClampNeg) then
      some (S41.2.2.1 16 v1.toNatClampNeg, S41)
    else none
set_option maxHeartbeats 4000000 in
set_option maxRecDepth 100000 in
theorem t_X6_operand_22 {g : z_G} {K : z_K} (n : Nat) (G : GT_X6_either) {d0 : Nat} (hG : HG_X6_either g G d0) (hb : 1 ≤ d0) {v : Int32} {S' : z_Stt} (cx : z_C g M_X6_operand (d0 + 1) K) (ce : z_E' g M_X6_operand (z_P g (some (.int v)) S') K) (x1 : Int32) (x2 : Int32) (S : z_Stt) (h : f_X6_operand_22 n G x1 x2 S = some (v, S')) : z_At g M_X6_operand K 22 [some (.ref (z_ad g 13)), some (.int x1), some (.int x2), none, none] [] (hp g S) := by
  unfold f_X6_operand_22 at h
  refine z_iload_n cx rfl rfl dX6_operand_22 ?_
  obtain ⟨v1, S2, e3, h⟩ := g_bd_ex h
  refine q_csi (As := [.int x2]) cx mo_X6_nameOf ms_X6_nameOf tb_371 (by omega) rfl rfl (Nat.le_of_ble_eq_true rfl) dX6_operand_23 (c_X6_nameOf x2 _ e3) ?_
  refine z_istore_n (L' := [some (.ref (z_ad g 13)), some (.int x1), some (.int x2), some (.int v1), none]) cx rfl (by decide) rfl dX6_operand_26 ?_
  refine z_iload_n cx rfl rfl dX6_operand_27 ?_
  refine z_if_lt (tgt := 48) cx (by decide) dX6_operand_28 (fun c4 => ?_) (fun c4 => ?_)
  · have h := g_t c4 h
    refine z_iload_n cx rfl rfl dX6_operand_48 ?_
    refine z_bipush (v := 6) cx (by decide +kernel) dX6_operand_49 ?_
    refine z_icmp_lt (tgt := 59) cx (by decide) dX6_operand_51 (fun c5 => ?_) (fun c5 => ?_)
    · have h := g_t c5 h
      refine z_aload_n cx rfl rfl dX6_operand_59 ?_
      refine z_bipush (v := 33) cx (by decide +kernel) dX6_operand_60 ?_
      obtain ⟨v6, S7, e8, h⟩ := g_bd_ex h
      refine q_cvi (As := [.int 33]) cx mo_X6_takes mv_X6_takes z_cl6 rfl tb_340 (by omega) rfl (by decide) rfl rfl (Nat.le_of_ble_eq_true rfl) dX6_operand_62 (c_X6_takes 33 _ e8) ?_
      refine q_ifb_eq (tgt := 87) cx (by decide) dX6_operand_65 (fun c9 => ?_) (fun c9 => ?_)
      · have h := g_f (Bool.eq_false_iff.mp c9) h
        refine z_aload_n cx rfl rfl dX6_operand_87 ?_
        refine z_bipush (v := 45) cx (by decide +kernel) dX6_operand_88 ?_
        obtain ⟨v10, S11, e12, h⟩ := g_bd_ex h
        refine q_cvi (As := [.int 45]) cx mo_X6_takes mv_X6_takes z_cl6 rfl tb_340 (by omega) rfl (by decide) rfl rfl (Nat.le_of_ble_eq_true rfl) dX6_operand_90 (c_X6_takes 45 _ e12) ?_
        refine q_ifb_eq (tgt := 105) cx (by decide) dX6_operand_93 (fun c13 => ?_) (fun c13 => ?_)
        · have h := g_f (Bool.eq_false_iff.mp c13) h
          refine z_aload_n cx rfl rfl dX6_operand_105 ?_
          refine z_bipush (v := 40) cx (by decide +kernel) dX6_operand_106 ?_
          obtain ⟨v14, S15, e16, h⟩ := g_bd_ex h
          refine q_cvi (As := [.int 40]) cx mo_X6_takes mv_X6_takes z_cl6 rfl tb_340 (by omega) rfl (by decide) rfl rfl (Nat.le_of_ble_eq_true rfl) dX6_operand_108 (c_X6_takes 40 _ e16) ?_
          refine q_ifb_ne (tgt := 119) cx (by decide) dX6_operand_111 (fun c17 => ?_) (fun c17 => ?_)
          · have h := g_t c17 h
            refine z_aload_n cx rfl rfl dX6_operand_119 ?_
            refine z_iload_n cx rfl rfl dX6_operand_120 ?_
            refine z_iconst (v := 1) cx (by decide +kernel) dX6_operand_121 ?_
            refine z_iadd cx dX6_operand_122 ?_
            obtain ⟨v18, S19, e20, h⟩ := g_bd_ex h
            refine q_cvi (As := [.int (x1 + 1)]) cx mo_X6_either mv_X6_either z_cl6 rfl tb_348 (Nat.le_refl _) rfl (by decide) rfl rfl (Nat.le_of_ble_eq_true rfl) dX6_operand_123 (hG.1 (x1 + 1) _ _ _ e20) ?_
            refine z_istore (L' := [some (.ref (z_ad g 13)), some (.int x1), some (.int x2), some (.int v1), some (.int v18)]) cx (by decide) rfl dX6_operand_126 ?_
            refine z_aload_n cx rfl rfl dX6_operand_128 ?_
            refine z_bipush (v := 41) cx (by decide +kernel) dX6_operand_129 ?_
            obtain ⟨v21, S22, e23, h⟩ := g_bd_ex h
            refine q_cvi (As := [.int 41]) cx mo_X6_takes mv_X6_takes z_cl6 rfl tb_340 (by omega) rfl (by decide) rfl rfl (Nat.le_of_ble_eq_true rfl) dX6_operand_131 (c_X6_takes 41 _ e23) ?_
            refine q_ifb_eq (tgt := 142) cx (by decide) dX6_operand_134 (fun c24 => ?_) (fun c24 => ?_)
            · have h := g_f (Bool.eq_false_iff.mp c24) h
              refine z_aload_n cx rfl rfl dX6_operand_142 ?_
              obtain ⟨v25, S26, e27, h⟩ := g_bd_ex h
              refine q_cvi (As := []) cx mo_X6_fails mv_X6_fails z_cl6 rfl tb_374 (by omega) rfl (by decide) rfl rfl (Nat.le_of_ble_eq_true rfl) dX6_operand_143 (c_X6_fails  _ e27) ?_
              obtain ⟨rfl, rfl⟩ := g_some h
              exact z_ireturn cx ce rfl ⟨rfl, rfl⟩ dX6_operand_146
            · have h := g_t c24 h
              refine z_iload cx rfl dX6_operand_137 ?_
              refine z_goto (tgt := 146) cx (by decide) dX6_operand_139 ?_
              obtain ⟨rfl, rfl⟩ := g_some h
              exact z_ireturn cx ce rfl ⟨rfl, rfl⟩ dX6_operand_146
          · have h := g_f (Bool.eq_false_iff.mp c17) h
            refine z_aload_n cx rfl rfl dX6_operand_114 ?_
            obtain ⟨v28, S29, e30, h⟩ := g_bd_ex h
            refine q_cvi (As := []) cx mo_X6_fails mv_X6_fails z_cl6 rfl tb_374 (by omega) rfl (by decide) rfl rfl (Nat.le_of_ble_eq_true rfl) dX6_operand_115 (c_X6_fails  _ e30) ?_
            obtain ⟨rfl, rfl⟩ := g_some h
            exact z_ireturn cx ce rfl ⟨rfl, rfl⟩ dX6_operand_118
        · have h := g_t c13 h
          refine z_aload_n cx rfl rfl dX6_operand_96 ?_
          refine z_iload_n cx rfl rfl dX6_operand_97 ?_
          refine z_iconst (v := 1) cx (by decide +kernel) dX6_operand_98 ?_
          refine z_iadd cx dX6_operand_99 ?_
          obtain ⟨v31, S32, e33, h⟩ := g_bd_ex h
          refine q_cvi (As := [.int (x1 + 1)]) cx mo_X6_operand mv_X6_operand z_cl6 rfl tb_378 (Nat.le_refl _) rfl (by decide) rfl rfl (Nat.le_of_ble_eq_true rfl) dX6_operand_100 (hG.2.2.2.2.2 (x1 + 1) _ _ _ e33) ?_
          refine z_ineg cx dX6_operand_103 ?_
          obtain ⟨rfl, rfl⟩ := g_some h
          exact z_ireturn cx ce rfl ⟨rfl, rfl⟩ dX6_operand_104
      · have h := g_t c9 h
        refine z_aload_n cx rfl rfl dX6_operand_68 ?_
        refine z_iload_n cx rfl rfl dX6_operand_69 ?_
        refine z_iconst (v := 1) cx (by decide +kernel) dX6_operand_70 ?_
        refine z_iadd cx dX6_operand_71 ?_
        obtain ⟨v34, S35, e36, h⟩ := g_bd_ex h
        refine q_cvi (As := [.int (x1 + 1)]) cx mo_X6_operand mv_X6_operand z_cl6 rfl tb_378 (Nat.le_refl _) rfl (by decide) rfl rfl (Nat.le_of_ble_eq_true rfl) dX6_operand_72 (hG.2.2.2.2.2 (x1 + 1) _ _ _ e36) ?_
        refine z_if_ne (tgt := 82) cx (by decide) dX6_operand_75 (fun c37 => ?_) (fun c37 => ?_)
        · have h := g_f c37 h
          refine z_iconst (v := 0) cx (by decide +kernel) dX6_operand_82 ?_
          exact q_weak (z_wk_n (z_wk_n (z_wk_n (z_wk_n (z_wk_n (z_wk_0)))))) (t_X6_operand_83 n G hG hb cx ce 0 S35 h)
        · have h := g_t c37 h
          refine z_iconst (v := 1) cx (by decide +kernel) dX6_operand_78 ?_
          refine z_goto (tgt := 83) cx (by decide) dX6_operand_79 ?_
          exact q_weak (z_wk_n (z_wk_n (z_wk_n (z_wk_n (z_wk_n (z_wk_0)))))) (t_X6_operand_83 n G hG hb cx ce 1 S35 h)
    · have h := g_f c5 h
      refine z_aload_n cx rfl rfl dX6_operand_54 ?_
      obtain ⟨v38, S39, e40, h⟩ := g_bd_ex h
      refine q_cvi (As := []) cx mo_X6_fails mv_X6_fails z_cl6 rfl tb_374 (by omega) rfl (by decide) rfl rfl (Nat.le_of_ble_eq_true rfl) dX6_operand_55 (c_X6_fails  _ e40) ?_
      obtain ⟨rfl, rfl⟩ := g_some h
      exact z_ireturn cx ce rfl ⟨rfl, rfl⟩ dX6_operand_58
  · have h := g_f c4 h
    refine z_aload_n cx rfl rfl dX6_operand_31 ?_
    refine z_dup cx rfl dX6_operand_32 ?_
    refine q_getI (k := 13) (n := 1305) cx z_cl6 (j := 5) (by decide) tb_88 rfl (by decide) rfl rfl rfl dX6_operand_33 ?_
    refine z_iconst (v := 1) cx (by decide +kernel) dX6_operand_36 ?_
    refine z_iadd cx dX6_operand_37 ?_
    refine q_putI (k := 13) (n := 1305) cx z_cl6 (j := 5) (by decide) tb_88 rfl rfl rfl (by decide) rfl rfl rfl (by decide) (by decide) dX6_operand_38 ?_
    obtain ⟨S41, e42, h⟩ := g_let_ex h
    rw [← e42]
    refine z_aload_n cx rfl rfl dX6_operand_41 ?_
    refine q_getF (k := 13) (n := 16) (r := 3) cx z_cl6 (j := 4) (by decide) tb_87 rfl (by decide) rfl rfl rfl dX6_operand_42 ?_
    refine z_iload_n cx rfl rfl dX6_operand_45 ?_
    obtain ⟨c43, h⟩ := g_if h
    refine q_iald cx (by decide) rfl c43 dX6_operand_46 ?_
    obtain ⟨rfl, rfl⟩ := g_some h
    exact z_ireturn cx ce rfl ⟨rfl, rfl⟩ dX6_operand_47
def f_X6_operand (n : Nat) (G : GT_X6_either) (a0 : Int32) (S : z_Stt) : Option (Int32 × z_Stt) :=
  g_bd (f_X6_letter S) fun v1 S2 =>
  if v1 < 48 then
    f_X6_operand_22 n G a0 v1 S2
  else
    if 57 < v1 then
      f_X6_operand_22 n G a0 v1 S2
    else
      g_bd (f_X6_number n S2) fun v6 S7 =>
      some (v6, S7)
set_option maxHeartbeats 4000000 in
set_option maxRecDepth 100000 in
theorem t_X6_operand {g : z_G} {K : z_K} (n : Nat) (G : GT_X6_either) {d0 : Nat} (hG : HG_X6_either g G d0) (hb : 1 ≤ d0) {v : Int32} {S' : z_Stt} (cx : z_C g M_X6_operand (d0 + 1) K) (ce : z_E' g M_X6_operand (z_P g (some (.int v)) S') K) (a0 : Int32) (S : z_Stt) (h : f_X6_operand n G a0 S = some (v, S')) : z_At g M_X6_operand K 0 [some (.ref (z_ad g 13)), some (.int a0), none, none, none] [] (hp g S) := by
  unfold f_X6_operand at h
  refine z_aload_n cx rfl rfl dX6_operand_0 ?_
  obtain ⟨v1, S2, e3, h⟩ := g_bd_ex h
  refine q_cvi (As := []) cx mo_X6_letter mv_X6_letter z_cl6 rfl tb_344 (by omega) rfl (by decide) rfl rfl (Nat.le_of_ble_eq_true rfl) dX6_operand_1 (c_X6_letter  _ e3) ?_
  refine z_istore_n (L' := [some (.ref (z_ad g 13)), some (.int a0), some (.int v1), none, none]) cx rfl (by decide) rfl dX6_operand_4 ?_
  refine z_iload_n cx rfl rfl dX6_operand_5 ?_
  refine z_bipush (v := 48) cx (by decide +kernel) dX6_operand_6 ?_
  refine z_icmp_lt (tgt := 22) cx (by decide) dX6_operand_8 (fun c4 => ?_) (fun c4 => ?_)
  · have h := g_t c4 h
    exact q_weak (z_wk_s (z_wk_s (z_wk_s (z_wk_n (z_wk_n (z_wk_0)))))) (t_X6_operand_22 n G hG hb cx ce a0 v1 S2 h)
  · have h := g_f c4 h
    refine z_iload_n cx rfl rfl dX6_operand_11 ?_
    refine z_bipush (v := 57) cx (by decide +kernel) dX6_operand_12 ?_
    refine z_icmp_gt (tgt := 22) cx (by decide) dX6_operand_14 (fun c5 => ?_) (fun c5 => ?_)
    · have h := g_t c5 h
      exact q_weak (z_wk_s (z_wk_s (z_wk_s (z_wk_n (z_wk_n (z_wk_0)))))) (t_X6_operand_22 n G hG hb cx ce a0 v1 S2 h)
    · have h := g_f c5 h
      refine z_aload_n cx rfl rfl dX6_operand_17 ?_
      obtain ⟨v6, S7, e8, h⟩ := g_bd_ex h
      refine q_cvi (As := []) cx mo_X6_number mv_X6_number z_cl6 rfl tb_367 (by omega) rfl (by decide) rfl rfl (Nat.le_of_ble_eq_true rfl) dX6_operand_18 (c_X6_number  _ e8) ?_
      obtain ⟨rfl, rfl⟩ := g_some h
      exact z_ireturn cx ce rfl ⟨rfl, rfl⟩ dX6_operand_21
theorem c_X6_operand {g : z_G} {n : Nat} {G : GT_X6_either} {d0 : Nat} (hG : HG_X6_either g G d0) (hb : 1 ≤ d0) (a0 : Int32) (S : z_Stt) {v : Int32} {S' : z_Stt} (h : f_X6_operand n G a0 S = some (v, S')) : z_Ct g M_X6_operand (d0 + 1) [.ref (z_ad g 13), .int a0] (hp g S) (z_P g (some (.int v)) S') :=
  z_Ct.of (by decide +kernel) rfl (Nat.le_of_ble_eq_true rfl) (fun K cx ce => q_weak (L' := [some (.ref (z_ad g 13)), some (.int a0), none, none, none]) (z_wk_s (z_wk_s (z_wk_e (z_wk_e (z_wk_e (z_wk_0)))))) (t_X6_operand n G hG hb cx ce a0 S h))
def g_X6_either (n : Nat) : Nat → GT_X6_either
  | 0 => (fun _ _ => none, fun _ _ => none, fun _ _ => none, fun _ _ => none, fun _ _ => none, fun _ _ => none)
  | dp + 1 => (f_X6_either n (g_X6_either n dp), f_X6_both n (g_X6_either n dp), f_X6_comparison n (g_X6_either n dp), f_X6_sum n (g_X6_either n dp), f_X6_product n (g_X6_either n dp), f_X6_operand n (g_X6_either n dp))
set_option maxHeartbeats 4000000 in
set_option maxRecDepth 100000 in
theorem hg_X6_either {g : z_G} {n : Nat} : ∀ dp : Nat, HG_X6_either g (g_X6_either n dp) (1 + dp) := by
  intro dp
  induction dp with
  | zero => exact ⟨(fun _ _ _ _ h => nomatch h), (fun _ _ _ _ h => nomatch h), (fun _ _ _ _ h => nomatch h), (fun _ _ _ _ h => nomatch h), (fun _ _ _ _ h => nomatch h), (fun _ _ _ _ h => nomatch h)⟩
  | succ dp ih => exact ⟨(fun a0 S v S' h => c_X6_either (n := n) ih (Nat.le_add_right _ _) a0 S h), (fun a0 S v S' h => c_X6_both (n := n) ih (Nat.le_add_right _ _) a0 S h), (fun a0 S v S' h => c_X6_comparison (n := n) ih (Nat.le_add_right _ _) a0 S h), (fun a0 S v S' h => c_X6_sum (n := n) ih (Nat.le_add_right _ _) a0 S h), (fun a0 S v S' h => c_X6_product (n := n) ih (Nat.le_add_right _ _) a0 S h), (fun a0 S v S' h => c_X6_operand (n := n) ih (Nat.le_add_right _ _) a0 S h)⟩
theorem cg_X6_either {g : z_G} {n : Nat} (a0 : Int32) (S : z_Stt) {v : Int32} {S' : z_Stt} (h : (g_X6_either n 64).1 a0 S = some (v, S')) : z_Ct g M_X6_either 65 [.ref (z_ad g 13), .int a0] (hp g S) (z_P g (some (.int v)) S') := (hg_X6_either 64).1 a0 S _ _ h
theorem cg_X6_both {g : z_G} {n : Nat} (a0 : Int32) (S : z_Stt) {v : Int32} {S' : z_Stt} (h : (g_X6_either n 64).2.1 a0 S = some (v, S')) : z_Ct g M_X6_both 65 [.ref (z_ad g 13), .int a0] (hp g S) (z_P g (some (.int v)) S') := (hg_X6_either 64).2.1 a0 S _ _ h
theorem cg_X6_comparison {g : z_G} {n : Nat} (a0 : Int32) (S : z_Stt) {v : Int32} {S' : z_Stt} (h : (g_X6_either n 64).2.2.1 a0 S = some (v, S')) : z_Ct g M_X6_comparison 65 [.ref (z_ad g 13), .int a0] (hp g S) (z_P g (some (.int v)) S') := (hg_X6_either 64).2.2.1 a0 S _ _ h
theorem cg_X6_sum {g : z_G} {n : Nat} (a0 : Int32) (S : z_Stt) {v : Int32} {S' : z_Stt} (h : (g_X6_either n 64).2.2.2.1 a0 S = some (v, S')) : z_Ct g M_X6_sum 65 [.ref (z_ad g 13), .int a0] (hp g S) (z_P g (some (.int v)) S') := (hg_X6_either 64).2.2.2.1 a0 S _ _ h
theorem cg_X6_product {g : z_G} {n : Nat} (a0 : Int32) (S : z_Stt) {v : Int32} {S' : z_Stt} (h : (g_X6_either n 64).2.2.2.2.1 a0 S = some (v, S')) : z_Ct g M_X6_product 65 [.ref (z_ad g 13), .int a0] (hp g S) (z_P g (some (.int v)) S') := (hg_X6_either 64).2.2.2.2.1 a0 S _ _ h
theorem cg_X6_operand {g : z_G} {n : Nat} (a0 : Int32) (S : z_Stt) {v : Int32} {S' : z_Stt} (h : (g_X6_either n 64).2.2.2.2.2 a0 S = some (v, S')) : z_Ct g M_X6_operand 65 [.ref (z_ad g 13), .int a0] (hp g S) (z_P g (some (.int v)) S') := (hg_X6_either 64).2.2.2.2.2 a0 S _ _ h
abbrev M_X6_lines : z_M := (RX6, yX6_lines, cX6_lines, 7, some .int)
theorem mo_X6_lines : z_mo M_X6_lines 0 := ⟨tb_339, tb_29, rfl, ⟨by decide +kernel, by decide +kernel⟩, by decide +kernel, by decide⟩
theorem mv_X6_lines : z_mv M_X6_lines := ⟨tb_337, tb_338⟩
def f_X6_lines_92 (n : Nat) (x2 : Int32) (S : z_Stt) : Option (Int32 × z_Stt) :=
  if S.1 1303 ≤ S.1 1305 then
    some (x2, S)
  else
    g_bd (f_X6_fails S) fun v2 S3 =>
    some (x2, S3)
set_option maxHeartbeats 4000000 in
set_option maxRecDepth 100000 in
theorem t_X6_lines_92 {g : z_G} {K : z_K} (n : Nat) {v : Int32} {S' : z_Stt} (cx : z_C g M_X6_lines 66 K) (ce : z_E' g M_X6_lines (z_P g (some (.int v)) S') K) (x2 : Int32) (S : z_Stt) (h : f_X6_lines_92 n x2 S = some (v, S')) : z_At g M_X6_lines K 92 [some (.ref (z_ad g 13)), none, some (.int x2), none, none, none, none] [] (hp g S) := by
  unfold f_X6_lines_92 at h
  refine z_aload_n cx rfl rfl dX6_lines_92 ?_
  refine q_getI (k := 13) (n := 1305) cx z_cl6 (j := 5) (by decide) tb_88 rfl (by decide) rfl rfl rfl dX6_lines_93 ?_
  refine z_aload_n cx rfl rfl dX6_lines_96 ?_
  refine q_getI (k := 13) (n := 1303) cx z_cl6 (j := 3) (by decide) tb_86 rfl (by decide) rfl rfl rfl dX6_lines_97 ?_
  refine z_icmp_ge (tgt := 108) cx (by decide) dX6_lines_100 (fun c1 => ?_) (fun c1 => ?_)
  · have h := g_t c1 h
    refine z_iload_n cx rfl rfl dX6_lines_108 ?_
    obtain ⟨rfl, rfl⟩ := g_some h
    exact z_ireturn cx ce rfl ⟨rfl, rfl⟩ dX6_lines_109
  · have h := g_f c1 h
    refine z_aload_n cx rfl rfl dX6_lines_103 ?_
    obtain ⟨v2, S3, e4, h⟩ := g_bd_ex h
    refine q_cvi (As := []) cx mo_X6_fails mv_X6_fails z_cl6 rfl tb_374 (by decide) rfl (by decide) rfl rfl (Nat.le_of_ble_eq_true rfl) dX6_lines_104 (c_X6_fails  _ e4) ?_
    refine z_pop cx rfl dX6_lines_107 ?_
    refine z_iload_n cx rfl rfl dX6_lines_108 ?_
    obtain ⟨rfl, rfl⟩ := g_some h
    exact z_ireturn cx ce rfl ⟨rfl, rfl⟩ dX6_lines_109
def f_X6_lines_86 (n : Nat) (k16 : Int32 → Int32 → Int32 → z_Stt → Option (Int32 × z_Stt)) (x1 : Int32) (x2 : Int32) (x3 : Int32) (S : z_Stt) : Option (Int32 × z_Stt) :=
  k16 x1 x2 (x3 + 1) S
set_option maxHeartbeats 4000000 in
set_option maxRecDepth 100000 in
theorem t_X6_lines_86 {g : z_G} {K : z_K} (n : Nat) {v : Int32} {S' : z_Stt} (cx : z_C g M_X6_lines 66 K) (ce : z_E' g M_X6_lines (z_P g (some (.int v)) S') K) (k16 : Int32 → Int32 → Int32 → z_Stt → Option (Int32 × z_Stt)) (hk16 : ∀ (x1 : Int32) (x2 : Int32) (x3 : Int32) (S : z_Stt), k16 x1 x2 x3 S = some (v, S') → z_At g M_X6_lines K 16 [some (.ref (z_ad g 13)), some (.int x1), some (.int x2), some (.int x3), none, none, none] [] (hp g S)) (x1 : Int32) (x2 : Int32) (x3 : Int32) (S : z_Stt) (h : f_X6_lines_86 n k16 x1 x2 x3 S = some (v, S')) : z_At g M_X6_lines K 86 [some (.ref (z_ad g 13)), some (.int x1), some (.int x2), some (.int x3), none, none, none] [] (hp g S) := by
  unfold f_X6_lines_86 at h
  refine z_iinc (c := 1) (L' := [some (.ref (z_ad g 13)), some (.int x1), some (.int x2), some (.int (x3 + 1)), none, none, none]) cx rfl (by decide +kernel) (by decide) rfl dX6_lines_86 ?_
  refine z_goto (tgt := 16) cx (by decide) dX6_lines_89 ?_
  exact q_weak (z_wk_s (z_wk_s (z_wk_s (z_wk_s (z_wk_n (z_wk_n (z_wk_n (z_wk_0)))))))) (hk16 x1 x2 (x3 + 1) S h)
def f_X6_lines_81 (n : Nat) (k16 : Int32 → Int32 → Int32 → z_Stt → Option (Int32 × z_Stt)) (x3 : Int32) (x6 : Int32) (S : z_Stt) : Option (Int32 × z_Stt) :=
  f_X6_lines_86 n k16 1 x6 x3 S
set_option maxHeartbeats 4000000 in
set_option maxRecDepth 100000 in
theorem t_X6_lines_81 {g : z_G} {K : z_K} (n : Nat) {v : Int32} {S' : z_Stt} (cx : z_C g M_X6_lines 66 K) (ce : z_E' g M_X6_lines (z_P g (some (.int v)) S') K) (k16 : Int32 → Int32 → Int32 → z_Stt → Option (Int32 × z_Stt)) (hk16 : ∀ (x1 : Int32) (x2 : Int32) (x3 : Int32) (S : z_Stt), k16 x1 x2 x3 S = some (v, S') → z_At g M_X6_lines K 16 [some (.ref (z_ad g 13)), some (.int x1), some (.int x2), some (.int x3), none, none, none] [] (hp g S)) (x3 : Int32) (x6 : Int32) (S : z_Stt) (h : f_X6_lines_81 n k16 x3 x6 S = some (v, S')) : z_At g M_X6_lines K 81 [some (.ref (z_ad g 13)), none, none, some (.int x3), none, none, some (.int x6)] [] (hp g S) := by
  unfold f_X6_lines_81 at h
  refine z_iconst (v := 1) cx (by decide +kernel) dX6_lines_81 ?_
  refine z_istore_n (L' := [some (.ref (z_ad g 13)), some (.int 1), none, some (.int x3), none, none, some (.int x6)]) cx rfl (by decide) rfl dX6_lines_82 ?_
  refine z_iload cx rfl dX6_lines_83 ?_
  refine z_istore_n (L' := [some (.ref (z_ad g 13)), some (.int 1), some (.int x6), some (.int x3), none, none, some (.int x6)]) cx rfl (by decide) rfl dX6_lines_85 ?_
  exact q_weak (z_wk_s (z_wk_s (z_wk_s (z_wk_s (z_wk_n (z_wk_n (z_wk_n (z_wk_0)))))))) (t_X6_lines_86 n cx ce k16 hk16 1 x6 x3 S h)
def f_X6_lines_65 (n : Nat) (k16 : Int32 → Int32 → Int32 → z_Stt → Option (Int32 × z_Stt)) (x1 : Int32) (x2 : Int32) (x3 : Int32) (x4 : Int32) (x5 : Int32) (y0 : Int32) (S : z_Stt) : Option (Int32 × z_Stt) :=
  if x1 = 0 then
    if x5 = 0 then
      f_X6_lines_81 n k16 x3 y0 S
    else
      if x4 = 0 then
        f_X6_lines_86 n k16 x1 x2 x3 S
      else
        f_X6_lines_81 n k16 x3 y0 S
  else
    f_X6_lines_86 n k16 x1 x2 x3 S
set_option maxHeartbeats 4000000 in
set_option maxRecDepth 100000 in
theorem t_X6_lines_65 {g : z_G} {K : z_K} (n : Nat) {v : Int32} {S' : z_Stt} (cx : z_C g M_X6_lines 66 K) (ce : z_E' g M_X6_lines (z_P g (some (.int v)) S') K) (k16 : Int32 → Int32 → Int32 → z_Stt → Option (Int32 × z_Stt)) (hk16 : ∀ (x1 : Int32) (x2 : Int32) (x3 : Int32) (S : z_Stt), k16 x1 x2 x3 S = some (v, S') → z_At g M_X6_lines K 16 [some (.ref (z_ad g 13)), some (.int x1), some (.int x2), some (.int x3), none, none, none] [] (hp g S)) (x1 : Int32) (x2 : Int32) (x3 : Int32) (x4 : Int32) (x5 : Int32) (y0 : Int32) (S : z_Stt) (h : f_X6_lines_65 n k16 x1 x2 x3 x4 x5 y0 S = some (v, S')) : z_At g M_X6_lines K 65 [some (.ref (z_ad g 13)), some (.int x1), some (.int x2), some (.int x3), some (.int x4), some (.int x5), none] [.int y0] (hp g S) := by
  unfold f_X6_lines_65 at h
  refine z_istore (L' := [some (.ref (z_ad g 13)), some (.int x1), some (.int x2), some (.int x3), some (.int x4), some (.int x5), some (.int y0)]) cx (by decide) rfl dX6_lines_65 ?_
  refine z_iload_n cx rfl rfl dX6_lines_67 ?_
  refine z_if_ne (tgt := 86) cx (by decide) dX6_lines_68 (fun c1 => ?_) (fun c1 => ?_)
  · have h := g_f c1 h
    exact q_weak (z_wk_s (z_wk_s (z_wk_s (z_wk_s (z_wk_n (z_wk_n (z_wk_n (z_wk_0)))))))) (t_X6_lines_86 n cx ce k16 hk16 x1 x2 x3 S h)
  · have h := g_t c1 h
    refine z_iload cx rfl dX6_lines_71 ?_
    refine z_if_eq (tgt := 81) cx (by decide) dX6_lines_73 (fun c2 => ?_) (fun c2 => ?_)
    · have h := g_t c2 h
      exact q_weak (z_wk_s (z_wk_n (z_wk_n (z_wk_s (z_wk_n (z_wk_n (z_wk_s (z_wk_0)))))))) (t_X6_lines_81 n cx ce k16 hk16 x3 y0 S h)
    · have h := g_f c2 h
      refine z_iload cx rfl dX6_lines_76 ?_
      refine z_if_eq (tgt := 86) cx (by decide) dX6_lines_78 (fun c3 => ?_) (fun c3 => ?_)
      · have h := g_t c3 h
        exact q_weak (z_wk_s (z_wk_s (z_wk_s (z_wk_s (z_wk_n (z_wk_n (z_wk_n (z_wk_0)))))))) (t_X6_lines_86 n cx ce k16 hk16 x1 x2 x3 S h)
      · have h := g_f c3 h
        exact q_weak (z_wk_s (z_wk_n (z_wk_n (z_wk_s (z_wk_n (z_wk_n (z_wk_s (z_wk_0)))))))) (t_X6_lines_81 n cx ce k16 hk16 x3 y0 S h)
def f_X6_lines_35 (n : Nat) (k16 : Int32 → Int32 → Int32 → z_Stt → Option (Int32 × z_Stt)) (x1 : Int32) (x2 : Int32) (x3 : Int32) (S : z_Stt) : Option (Int32 × z_Stt) :=
  g_bd ((g_X6_either n 64).1 0 S) fun v1 S2 =>
  g_bd (f_X6_takes 63 S2) fun v4 S5 =>
  if v4 = true then
    g_bd ((g_X6_either n 64).1 0 S5) fun v8 S9 =>
    f_X6_lines_65 n k16 x1 x2 x3 v1 (bI v4) v8 S9
  else
    f_X6_lines_65 n k16 x1 x2 x3 v1 (bI v4) v1 S5
set_option maxHeartbeats 4000000 in
set_option maxRecDepth 100000 in
theorem t_X6_lines_35 {g : z_G} {K : z_K} (n : Nat) {v : Int32} {S' : z_Stt} (cx : z_C g M_X6_lines 66 K) (ce : z_E' g M_X6_lines (z_P g (some (.int v)) S') K) (k16 : Int32 → Int32 → Int32 → z_Stt → Option (Int32 × z_Stt)) (hk16 : ∀ (x1 : Int32) (x2 : Int32) (x3 : Int32) (S : z_Stt), k16 x1 x2 x3 S = some (v, S') → z_At g M_X6_lines K 16 [some (.ref (z_ad g 13)), some (.int x1), some (.int x2), some (.int x3), none, none, none] [] (hp g S)) (x1 : Int32) (x2 : Int32) (x3 : Int32) (S : z_Stt) (h : f_X6_lines_35 n k16 x1 x2 x3 S = some (v, S')) : z_At g M_X6_lines K 35 [some (.ref (z_ad g 13)), some (.int x1), some (.int x2), some (.int x3), none, none, none] [] (hp g S) := by
  unfold f_X6_lines_35 at h
  refine z_aload_n cx rfl rfl dX6_lines_35 ?_
  refine z_iconst (v := 0) cx (by decide +kernel) dX6_lines_36 ?_
  obtain ⟨v1, S2, e3, h⟩ := g_bd_ex h
  refine q_cvi (As := [.int 0]) cx mo_X6_either mv_X6_either z_cl6 rfl tb_348 (by decide) rfl (by decide) rfl rfl (Nat.le_of_ble_eq_true rfl) dX6_lines_37 (cg_X6_either 0 _ e3) ?_
  refine z_istore (L' := [some (.ref (z_ad g 13)), some (.int x1), some (.int x2), some (.int x3), some (.int v1), none, none]) cx (by decide) rfl dX6_lines_40 ?_
  refine z_aload_n cx rfl rfl dX6_lines_42 ?_
  refine z_bipush (v := 63) cx (by decide +kernel) dX6_lines_43 ?_
  obtain ⟨v4, S5, e6, h⟩ := g_bd_ex h
  refine q_cvi (As := [.int 63]) cx mo_X6_takes mv_X6_takes z_cl6 rfl tb_340 (by decide) rfl (by decide) rfl rfl (Nat.le_of_ble_eq_true rfl) dX6_lines_45 (c_X6_takes 63 _ e6) ?_
  refine z_istore (L' := [some (.ref (z_ad g 13)), some (.int x1), some (.int x2), some (.int x3), some (.int v1), some (.int (bI v4)), none]) cx (by decide) rfl dX6_lines_48 ?_
  refine z_iload cx rfl dX6_lines_50 ?_
  refine q_ifb_eq (tgt := 63) cx (by decide) dX6_lines_52 (fun c7 => ?_) (fun c7 => ?_)
  · have h := g_f (Bool.eq_false_iff.mp c7) h
    refine z_iload cx rfl dX6_lines_63 ?_
    exact q_weak (z_wk_s (z_wk_s (z_wk_s (z_wk_s (z_wk_s (z_wk_s (z_wk_n (z_wk_0)))))))) (t_X6_lines_65 n cx ce k16 hk16 x1 x2 x3 v1 (bI v4) v1 S5 h)
  · have h := g_t c7 h
    refine z_aload_n cx rfl rfl dX6_lines_55 ?_
    refine z_iconst (v := 0) cx (by decide +kernel) dX6_lines_56 ?_
    obtain ⟨v8, S9, e10, h⟩ := g_bd_ex h
    refine q_cvi (As := [.int 0]) cx mo_X6_either mv_X6_either z_cl6 rfl tb_348 (by decide) rfl (by decide) rfl rfl (Nat.le_of_ble_eq_true rfl) dX6_lines_57 (cg_X6_either 0 _ e10) ?_
    refine z_goto (tgt := 65) cx (by decide) dX6_lines_60 ?_
    exact q_weak (z_wk_s (z_wk_s (z_wk_s (z_wk_s (z_wk_s (z_wk_s (z_wk_n (z_wk_0)))))))) (t_X6_lines_65 n cx ce k16 hk16 x1 x2 x3 v1 (bI v4) v8 S9 h)
def f_X6_lines_16 (n : Nat) : Nat → Int32 → Int32 → Int32 → z_Stt → Option (Int32 × z_Stt)
  | 0, _, _, _, _ => none
  | m + 1, x1, x2, x3, S =>
    if 120 ≤ x3 then
      f_X6_lines_92 n x2 S
    else
      if x3 = 0 then
        f_X6_lines_35 n (f_X6_lines_16 n m) x1 x2 x3 S
      else
        g_bd (f_X6_takes 59 S) fun v3 S4 =>
        if v3 = true then
          f_X6_lines_35 n (f_X6_lines_16 n m) x1 x2 x3 S4
        else
          f_X6_lines_92 n x2 S4
set_option maxHeartbeats 4000000 in
set_option maxRecDepth 100000 in
theorem t_X6_lines_16 {g : z_G} {K : z_K} (n : Nat) {v : Int32} {S' : z_Stt} (cx : z_C g M_X6_lines 66 K) (ce : z_E' g M_X6_lines (z_P g (some (.int v)) S') K) : ∀ (m : Nat) (x1 : Int32) (x2 : Int32) (x3 : Int32) (S : z_Stt) (h : f_X6_lines_16 n m x1 x2 x3 S = some (v, S')), z_At g M_X6_lines K 16 [some (.ref (z_ad g 13)), some (.int x1), some (.int x2), some (.int x3), none, none, none] [] (hp g S) := by
  intro m
  induction m with
  | zero => intro x1 x2 x3 S h; simp [f_X6_lines_16] at h
  | succ m ih =>
    intro x1 x2 x3 S h
    rw [f_X6_lines_16] at h
    refine z_iload_n cx rfl rfl dX6_lines_16 ?_
    refine z_bipush (v := 120) cx (by decide +kernel) dX6_lines_17 ?_
    refine z_icmp_ge (tgt := 92) cx (by decide) dX6_lines_19 (fun c1 => ?_) (fun c1 => ?_)
    · have h := g_t c1 h
      exact q_weak (z_wk_s (z_wk_n (z_wk_s (z_wk_n (z_wk_n (z_wk_n (z_wk_n (z_wk_0)))))))) (t_X6_lines_92 n cx ce x2 S h)
    · have h := g_f c1 h
      refine z_iload_n cx rfl rfl dX6_lines_22 ?_
      refine z_if_eq (tgt := 35) cx (by decide) dX6_lines_23 (fun c2 => ?_) (fun c2 => ?_)
      · have h := g_t c2 h
        exact q_weak (z_wk_s (z_wk_s (z_wk_s (z_wk_s (z_wk_n (z_wk_n (z_wk_n (z_wk_0)))))))) (t_X6_lines_35 n cx ce (f_X6_lines_16 n m) ih x1 x2 x3 S h)
      · have h := g_f c2 h
        refine z_aload_n cx rfl rfl dX6_lines_26 ?_
        refine z_bipush (v := 59) cx (by decide +kernel) dX6_lines_27 ?_
        obtain ⟨v3, S4, e5, h⟩ := g_bd_ex h
        refine q_cvi (As := [.int 59]) cx mo_X6_takes mv_X6_takes z_cl6 rfl tb_340 (by decide) rfl (by decide) rfl rfl (Nat.le_of_ble_eq_true rfl) dX6_lines_29 (c_X6_takes 59 _ e5) ?_
        refine q_ifb_eq (tgt := 92) cx (by decide) dX6_lines_32 (fun c6 => ?_) (fun c6 => ?_)
        · have h := g_f (Bool.eq_false_iff.mp c6) h
          exact q_weak (z_wk_s (z_wk_n (z_wk_s (z_wk_n (z_wk_n (z_wk_n (z_wk_n (z_wk_0)))))))) (t_X6_lines_92 n cx ce x2 S4 h)
        · have h := g_t c6 h
          exact q_weak (z_wk_s (z_wk_s (z_wk_s (z_wk_s (z_wk_n (z_wk_n (z_wk_n (z_wk_0)))))))) (t_X6_lines_35 n cx ce (f_X6_lines_16 n m) ih x1 x2 x3 S4 h)
def f_X6_lines (n : Nat) (S : z_Stt) : Option (Int32 × z_Stt) :=
  g_let (sI S 1305 0) fun S1 =>
  g_let (sI S1 1306 (-1)) fun S3 =>
  f_X6_lines_16 n n 0 0 0 S3
set_option maxHeartbeats 4000000 in
set_option maxRecDepth 100000 in
theorem t_X6_lines {g : z_G} {K : z_K} (n : Nat) {v : Int32} {S' : z_Stt} (cx : z_C g M_X6_lines 66 K) (ce : z_E' g M_X6_lines (z_P g (some (.int v)) S') K) (S : z_Stt) (h : f_X6_lines n S = some (v, S')) : z_At g M_X6_lines K 0 [some (.ref (z_ad g 13)), none, none, none, none, none, none] [] (hp g S) := by
  unfold f_X6_lines at h
  refine z_aload_n cx rfl rfl dX6_lines_0 ?_
  refine z_iconst (v := 0) cx (by decide +kernel) dX6_lines_1 ?_
  refine q_putI (k := 13) (n := 1305) cx z_cl6 (j := 5) (by decide) tb_88 rfl rfl rfl (by decide) rfl rfl rfl (by decide) (by decide) dX6_lines_2 ?_
  obtain ⟨S1, e2, h⟩ := g_let_ex h
  rw [← e2]
  refine z_aload_n cx rfl rfl dX6_lines_5 ?_
  refine z_iconst (v := (-1)) cx (by decide +kernel) dX6_lines_6 ?_
  refine q_putI (k := 13) (n := 1306) cx z_cl6 (j := 6) (by decide) tb_89 rfl rfl rfl (by decide) rfl rfl rfl (by decide) (by decide) dX6_lines_7 ?_
  obtain ⟨S3, e4, h⟩ := g_let_ex h
  rw [← e4]
  refine z_iconst (v := 0) cx (by decide +kernel) dX6_lines_10 ?_
  refine z_istore_n (L' := [some (.ref (z_ad g 13)), some (.int 0), none, none, none, none, none]) cx rfl (by decide) rfl dX6_lines_11 ?_
  refine z_iconst (v := 0) cx (by decide +kernel) dX6_lines_12 ?_
  refine z_istore_n (L' := [some (.ref (z_ad g 13)), some (.int 0), some (.int 0), none, none, none, none]) cx rfl (by decide) rfl dX6_lines_13 ?_
  refine z_iconst (v := 0) cx (by decide +kernel) dX6_lines_14 ?_
  refine z_istore_n (L' := [some (.ref (z_ad g 13)), some (.int 0), some (.int 0), some (.int 0), none, none, none]) cx rfl (by decide) rfl dX6_lines_15 ?_
  exact q_weak (z_wk_s (z_wk_s (z_wk_s (z_wk_s (z_wk_n (z_wk_n (z_wk_n (z_wk_0)))))))) (t_X6_lines_16 n cx ce n 0 0 0 S3 h)
theorem c_X6_lines {g : z_G} {n : Nat} (S : z_Stt) {v : Int32} {S' : z_Stt} (h : f_X6_lines n S = some (v, S')) : z_Ct g M_X6_lines 66 [.ref (z_ad g 13)] (hp g S) (z_P g (some (.int v)) S') :=
  z_Ct.of (by decide +kernel) rfl (Nat.le_of_ble_eq_true rfl) (fun K cx ce => q_weak (L' := [some (.ref (z_ad g 13)), none, none, none, none, none, none]) (z_wk_s (z_wk_e (z_wk_e (z_wk_e (z_wk_e (z_wk_e (z_wk_e (z_wk_0)))))))) (t_X6_lines n cx ce S h))
abbrev M_X6_enact : z_M := (RX6, yX6_enact, cX6_enact, 3, some .int)
theorem mo_X6_enact : z_mo M_X6_enact 0 := ⟨tb_335, tb_29, rfl, ⟨by decide +kernel, by decide +kernel⟩, by decide +kernel, by decide⟩
theorem mv_X6_enact : z_mv M_X6_enact := ⟨tb_333, tb_334⟩
def f_X6_enact_66 (n : Nat) (S : z_Stt) : Option (Int32 × z_Stt) :=
  some (S.1 1306, S)
set_option maxHeartbeats 4000000 in
set_option maxRecDepth 100000 in
theorem t_X6_enact_66 {g : z_G} {K : z_K} (n : Nat) {v : Int32} {S' : z_Stt} (cx : z_C g M_X6_enact 67 K) (ce : z_E' g M_X6_enact (z_P g (some (.int v)) S') K) (S : z_Stt) (h : f_X6_enact_66 n S = some (v, S')) : z_At g M_X6_enact K 66 [some (.ref (z_ad g 13)), none, none] [] (hp g S) := by
  unfold f_X6_enact_66 at h
  refine z_aload_n cx rfl rfl dX6_enact_66 ?_
  refine q_getI (k := 13) (n := 1306) cx z_cl6 (j := 6) (by decide) tb_89 rfl (by decide) rfl rfl rfl dX6_enact_67 ?_
  obtain ⟨rfl, rfl⟩ := g_some h
  exact z_ireturn cx ce rfl ⟨rfl, rfl⟩ dX6_enact_70
def f_X6_enact (n : Nat) (S : z_Stt) : Option (Int32 × z_Stt) :=
  g_let (sR S 1302 (S.2.2.2.2 1300)) fun S1 =>
  g_let (sI S1 1303 (S1.1 1301)) fun S3 =>
  g_let (sR S3 1300 (S.2.2.2.2 1302)) fun S5 =>
  g_let (sI S5 1301 0) fun S7 =>
  g_bd (f_X6_lines n S7) fun v9 S10 =>
  if S10.1 1306 < 0 then
    f_X6_enact_66 n S10
  else
    g_let (sR S10 1300 (S10.2.2.2.2 1302)) fun S13 =>
    g_let (sR S13 1302 (S.2.2.2.2 1302)) fun S15 =>
    g_let (sI S15 1303 (S.1 1303)) fun S17 =>
    f_X6_enact_66 n S17
set_option maxHeartbeats 4000000 in
set_option maxRecDepth 100000 in
theorem t_X6_enact {g : z_G} {K : z_K} (n : Nat) {v : Int32} {S' : z_Stt} (cx : z_C g M_X6_enact 67 K) (ce : z_E' g M_X6_enact (z_P g (some (.int v)) S') K) (S : z_Stt) (h : f_X6_enact n S = some (v, S')) : z_At g M_X6_enact K 0 [some (.ref (z_ad g 13)), none, none] [] (hp g S) := by
  unfold f_X6_enact at h
  refine z_aload_n cx rfl rfl dX6_enact_0 ?_
  refine q_getR (k := 13) (n := 1302) cx z_cl6 (j := 2) (by decide) tb_85 rfl (by decide) rfl rfl rfl dX6_enact_1 ?_
  refine z_astore_n (L' := [some (.ref (z_ad g 13)), some (.ref (z_ad g (S.2.2.2.2 1302))), none]) cx rfl (by decide) rfl dX6_enact_4 ?_
  refine z_aload_n cx rfl rfl dX6_enact_5 ?_
  refine q_getI (k := 13) (n := 1303) cx z_cl6 (j := 3) (by decide) tb_86 rfl (by decide) rfl rfl rfl dX6_enact_6 ?_
  refine z_istore_n (L' := [some (.ref (z_ad g 13)), some (.ref (z_ad g (S.2.2.2.2 1302))), some (.int (S.1 1303))]) cx rfl (by decide) rfl dX6_enact_9 ?_
  refine z_aload_n cx rfl rfl dX6_enact_10 ?_
  refine z_aload_n cx rfl rfl dX6_enact_11 ?_
  refine q_getR (k := 13) (n := 1300) cx z_cl6 (j := 0) (by decide) tb_83 rfl (by decide) rfl rfl rfl dX6_enact_12 ?_
  refine q_putR (k := 13) (n := 1302) cx z_cl6 (j := 2) (by decide) tb_85 rfl rfl rfl (by decide) rfl rfl rfl (by decide) (by decide) dX6_enact_15 ?_
  obtain ⟨S1, e2, h⟩ := g_let_ex h
  rw [← e2]
  refine z_aload_n cx rfl rfl dX6_enact_18 ?_
  refine z_aload_n cx rfl rfl dX6_enact_19 ?_
  refine q_getI (k := 13) (n := 1301) cx z_cl6 (j := 1) (by decide) tb_84 rfl (by decide) rfl rfl rfl dX6_enact_20 ?_
  refine q_putI (k := 13) (n := 1303) cx z_cl6 (j := 3) (by decide) tb_86 rfl rfl rfl (by decide) rfl rfl rfl (by decide) (by decide) dX6_enact_23 ?_
  obtain ⟨S3, e4, h⟩ := g_let_ex h
  rw [← e4]
  refine z_aload_n cx rfl rfl dX6_enact_26 ?_
  refine z_aload_n cx rfl rfl dX6_enact_27 ?_
  refine q_putR (k := 13) (n := 1300) cx z_cl6 (j := 0) (by decide) tb_83 rfl rfl rfl (by decide) rfl rfl rfl (by decide) (by decide) dX6_enact_28 ?_
  obtain ⟨S5, e6, h⟩ := g_let_ex h
  rw [← e6]
  refine z_aload_n cx rfl rfl dX6_enact_31 ?_
  refine z_iconst (v := 0) cx (by decide +kernel) dX6_enact_32 ?_
  refine q_putI (k := 13) (n := 1301) cx z_cl6 (j := 1) (by decide) tb_84 rfl rfl rfl (by decide) rfl rfl rfl (by decide) (by decide) dX6_enact_33 ?_
  obtain ⟨S7, e8, h⟩ := g_let_ex h
  rw [← e8]
  refine z_aload_n cx rfl rfl dX6_enact_36 ?_
  obtain ⟨v9, S10, e11, h⟩ := g_bd_ex h
  refine q_cvi (As := []) cx mo_X6_lines mv_X6_lines z_cl6 rfl tb_336 (by decide) rfl (by decide) rfl rfl (Nat.le_of_ble_eq_true rfl) dX6_enact_37 (c_X6_lines  _ e11) ?_
  refine z_pop cx rfl dX6_enact_40 ?_
  refine z_aload_n cx rfl rfl dX6_enact_41 ?_
  refine q_getI (k := 13) (n := 1306) cx z_cl6 (j := 6) (by decide) tb_89 rfl (by decide) rfl rfl rfl dX6_enact_42 ?_
  refine z_if_lt (tgt := 66) cx (by decide) dX6_enact_45 (fun c12 => ?_) (fun c12 => ?_)
  · have h := g_t c12 h
    exact q_weak (z_wk_s (z_wk_n (z_wk_n (z_wk_0)))) (t_X6_enact_66 n cx ce S10 h)
  · have h := g_f c12 h
    refine z_aload_n cx rfl rfl dX6_enact_48 ?_
    refine z_aload_n cx rfl rfl dX6_enact_49 ?_
    refine q_getR (k := 13) (n := 1302) cx z_cl6 (j := 2) (by decide) tb_85 rfl (by decide) rfl rfl rfl dX6_enact_50 ?_
    refine q_putR (k := 13) (n := 1300) cx z_cl6 (j := 0) (by decide) tb_83 rfl rfl rfl (by decide) rfl rfl rfl (by decide) (by decide) dX6_enact_53 ?_
    obtain ⟨S13, e14, h⟩ := g_let_ex h
    rw [← e14]
    refine z_aload_n cx rfl rfl dX6_enact_56 ?_
    refine z_aload_n cx rfl rfl dX6_enact_57 ?_
    refine q_putR (k := 13) (n := 1302) cx z_cl6 (j := 2) (by decide) tb_85 rfl rfl rfl (by decide) rfl rfl rfl (by decide) (by decide) dX6_enact_58 ?_
    obtain ⟨S15, e16, h⟩ := g_let_ex h
    rw [← e16]
    refine z_aload_n cx rfl rfl dX6_enact_61 ?_
    refine z_iload_n cx rfl rfl dX6_enact_62 ?_
    refine q_putI (k := 13) (n := 1303) cx z_cl6 (j := 3) (by decide) tb_86 rfl rfl rfl (by decide) rfl rfl rfl (by decide) (by decide) dX6_enact_63 ?_
    obtain ⟨S17, e18, h⟩ := g_let_ex h
    rw [← e18]
    exact q_weak (z_wk_s (z_wk_n (z_wk_n (z_wk_0)))) (t_X6_enact_66 n cx ce S17 h)
theorem c_X6_enact {g : z_G} {n : Nat} (S : z_Stt) {v : Int32} {S' : z_Stt} (h : f_X6_enact n S = some (v, S')) : z_Ct g M_X6_enact 67 [.ref (z_ad g 13)] (hp g S) (z_P g (some (.int v)) S') :=
  z_Ct.of (by decide +kernel) rfl (Nat.le_of_ble_eq_true rfl) (fun K cx ce => q_weak (L' := [some (.ref (z_ad g 13)), none, none]) (z_wk_s (z_wk_e (z_wk_e (z_wk_0)))) (t_X6_enact n cx ce S h))
abbrev M_X6_says : z_M := (RX6, yX6_says, cX6_says, 7, some .boolean)
theorem mo_X6_says : z_mo M_X6_says 6 := ⟨tb_672, tb_29, rfl, ⟨by decide +kernel, by decide +kernel⟩, by decide +kernel, by decide⟩
theorem mv_X6_says : z_mv M_X6_says := ⟨tb_670, tb_671⟩
def f_X6_says (n : Nat) (a0 : Int32) (a1 : Int32) (a2 : Int32) (a3 : Int32) (a4 : Int32) (a5 : Int32) (S : z_Stt) : Option (Bool × z_Stt) :=
  if S.1 1303 = 0 then
    if a0 * a1 ≤ (288 * a2) * a3 then
      some (false, S)
    else
      some (true, S)
  else
    if ¬ ((0 : Int32) < 0 ∨ 6 ≤ (0 : Int32).toNatClampNeg) then
      g_let (sA S 16 (upd (S.2.2.1 16) (0 : Int32).toNatClampNeg a0)) fun S3 =>
      if ¬ ((1 : Int32) < 0 ∨ 6 ≤ (1 : Int32).toNatClampNeg) then
        g_let (sA S3 16 (upd (S3.2.2.1 16) (1 : Int32).toNatClampNeg a1)) fun S6 =>
        if ¬ ((2 : Int32) < 0 ∨ 6 ≤ (2 : Int32).toNatClampNeg) then
          g_let (sA S6 16 (upd (S6.2.2.1 16) (2 : Int32).toNatClampNeg a2)) fun S9 =>
          if ¬ ((3 : Int32) < 0 ∨ 6 ≤ (3 : Int32).toNatClampNeg) then
            g_let (sA S9 16 (upd (S9.2.2.1 16) (3 : Int32).toNatClampNeg a3)) fun S12 =>
            if ¬ ((4 : Int32) < 0 ∨ 6 ≤ (4 : Int32).toNatClampNeg) then
              g_let (sA S12 16 (upd (S12.2.2.1 16) (4 : Int32).toNatClampNeg a4)) fun S15 =>
              if ¬ ((5 : Int32) < 0 ∨ 6 ≤ (5 : Int32).toNatClampNeg) then
                g_let (sA S15 16 (upd (S15.2.2.1 16) (5 : Int32).toNatClampNeg a5)) fun S18 =>
                g_bd (f_X6_lines n S18) fun v20 S21 =>
                if v20 = 0 then
                  some (false, S21)
                else
                  some (true, S21)
              else none
            else none
          else none
        else none
      else none
    else none
set_option maxHeartbeats 4000000 in
set_option maxRecDepth 100000 in
theorem t_X6_says {g : z_G} {K : z_K} (n : Nat) {v : Bool} {S' : z_Stt} (cx : z_C g M_X6_says 67 K) (ce : z_E' g M_X6_says (z_P g (some (.int (bI v))) S') K) (a0 : Int32) (a1 : Int32) (a2 : Int32) (a3 : Int32) (a4 : Int32) (a5 : Int32) (S : z_Stt) (h : f_X6_says n a0 a1 a2 a3 a4 a5 S = some (v, S')) : z_At g M_X6_says K 0 [some (.ref (z_ad g 13)), some (.int a0), some (.int a1), some (.int a2), some (.int a3), some (.int a4), some (.int a5)] [] (hp g S) := by
  unfold f_X6_says at h
  refine z_aload_n cx rfl rfl dX6_says_0 ?_
  refine q_getI (k := 13) (n := 1303) cx z_cl6 (j := 3) (by decide) tb_86 rfl (by decide) rfl rfl rfl dX6_says_1 ?_
  refine z_if_ne (tgt := 27) cx (by decide) dX6_says_4 (fun c1 => ?_) (fun c1 => ?_)
  · have h := g_f c1 h
    refine z_aload_n cx rfl rfl dX6_says_27 ?_
    refine q_getF (k := 13) (n := 16) (r := 3) cx z_cl6 (j := 4) (by decide) tb_87 rfl (by decide) rfl rfl rfl dX6_says_28 ?_
    refine z_iconst (v := 0) cx (by decide +kernel) dX6_says_31 ?_
    refine z_iload_n cx rfl rfl dX6_says_32 ?_
    obtain ⟨c2, h⟩ := g_if h
    refine q_iast cx (by decide) rfl c2 dX6_says_33 ?_
    obtain ⟨S3, e4, h⟩ := g_let_ex h
    rw [← e4]
    refine z_aload_n cx rfl rfl dX6_says_34 ?_
    refine q_getF (k := 13) (n := 16) (r := 3) cx z_cl6 (j := 4) (by decide) tb_87 rfl (by decide) rfl rfl rfl dX6_says_35 ?_
    refine z_iconst (v := 1) cx (by decide +kernel) dX6_says_38 ?_
    refine z_iload_n cx rfl rfl dX6_says_39 ?_
    obtain ⟨c5, h⟩ := g_if h
    refine q_iast cx (by decide) rfl c5 dX6_says_40 ?_
    obtain ⟨S6, e7, h⟩ := g_let_ex h
    rw [← e7]
    refine z_aload_n cx rfl rfl dX6_says_41 ?_
    refine q_getF (k := 13) (n := 16) (r := 3) cx z_cl6 (j := 4) (by decide) tb_87 rfl (by decide) rfl rfl rfl dX6_says_42 ?_
    refine z_iconst (v := 2) cx (by decide +kernel) dX6_says_45 ?_
    refine z_iload_n cx rfl rfl dX6_says_46 ?_
    obtain ⟨c8, h⟩ := g_if h
    refine q_iast cx (by decide) rfl c8 dX6_says_47 ?_
    obtain ⟨S9, e10, h⟩ := g_let_ex h
    rw [← e10]
    refine z_aload_n cx rfl rfl dX6_says_48 ?_
    refine q_getF (k := 13) (n := 16) (r := 3) cx z_cl6 (j := 4) (by decide) tb_87 rfl (by decide) rfl rfl rfl dX6_says_49 ?_
    refine z_iconst (v := 3) cx (by decide +kernel) dX6_says_52 ?_
    refine z_iload cx rfl dX6_says_53 ?_
    obtain ⟨c11, h⟩ := g_if h
    refine q_iast cx (by decide) rfl c11 dX6_says_55 ?_
    obtain ⟨S12, e13, h⟩ := g_let_ex h
    rw [← e13]
    refine z_aload_n cx rfl rfl dX6_says_56 ?_
    refine q_getF (k := 13) (n := 16) (r := 3) cx z_cl6 (j := 4) (by decide) tb_87 rfl (by decide) rfl rfl rfl dX6_says_57 ?_
    refine z_iconst (v := 4) cx (by decide +kernel) dX6_says_60 ?_
    refine z_iload cx rfl dX6_says_61 ?_
    obtain ⟨c14, h⟩ := g_if h
    refine q_iast cx (by decide) rfl c14 dX6_says_63 ?_
    obtain ⟨S15, e16, h⟩ := g_let_ex h
    rw [← e16]
    refine z_aload_n cx rfl rfl dX6_says_64 ?_
    refine q_getF (k := 13) (n := 16) (r := 3) cx z_cl6 (j := 4) (by decide) tb_87 rfl (by decide) rfl rfl rfl dX6_says_65 ?_
    refine z_iconst (v := 5) cx (by decide +kernel) dX6_says_68 ?_
    refine z_iload cx rfl dX6_says_69 ?_
    obtain ⟨c17, h⟩ := g_if h
    refine q_iast cx (by decide) rfl c17 dX6_says_71 ?_
    obtain ⟨S18, e19, h⟩ := g_let_ex h
    rw [← e19]
    refine z_aload_n cx rfl rfl dX6_says_72 ?_
    obtain ⟨v20, S21, e22, h⟩ := g_bd_ex h
    refine q_cvi (As := []) cx mo_X6_lines mv_X6_lines z_cl6 rfl tb_336 (by decide) rfl (by decide) rfl rfl (Nat.le_of_ble_eq_true rfl) dX6_says_73 (c_X6_lines  _ e22) ?_
    refine z_if_eq (tgt := 83) cx (by decide) dX6_says_76 (fun c23 => ?_) (fun c23 => ?_)
    · have h := g_t c23 h
      refine z_iconst (v := 0) cx (by decide +kernel) dX6_says_83 ?_
      obtain ⟨rfl, rfl⟩ := g_some h
      exact z_zreturn cx ce rfl (by decide +kernel) ⟨rfl, rfl⟩ dX6_says_84
    · have h := g_f c23 h
      refine z_iconst (v := 1) cx (by decide +kernel) dX6_says_79 ?_
      refine z_goto (tgt := 84) cx (by decide) dX6_says_80 ?_
      obtain ⟨rfl, rfl⟩ := g_some h
      exact z_zreturn cx ce rfl (by decide +kernel) ⟨rfl, rfl⟩ dX6_says_84
  · have h := g_t c1 h
    refine z_iload_n cx rfl rfl dX6_says_7 ?_
    refine z_iload_n cx rfl rfl dX6_says_8 ?_
    refine z_imul cx dX6_says_9 ?_
    refine z_sipush (v := 288) cx (by decide +kernel) dX6_says_10 ?_
    refine z_iload_n cx rfl rfl dX6_says_13 ?_
    refine z_imul cx dX6_says_14 ?_
    refine z_iload cx rfl dX6_says_15 ?_
    refine z_imul cx dX6_says_17 ?_
    refine z_icmp_le (tgt := 25) cx (by decide) dX6_says_18 (fun c24 => ?_) (fun c24 => ?_)
    · have h := g_t c24 h
      refine z_iconst (v := 0) cx (by decide +kernel) dX6_says_25 ?_
      obtain ⟨rfl, rfl⟩ := g_some h
      exact z_zreturn cx ce rfl (by decide +kernel) ⟨rfl, rfl⟩ dX6_says_26
    · have h := g_f c24 h
      refine z_iconst (v := 1) cx (by decide +kernel) dX6_says_21 ?_
      refine z_goto (tgt := 26) cx (by decide) dX6_says_22 ?_
      obtain ⟨rfl, rfl⟩ := g_some h
      exact z_zreturn cx ce rfl (by decide +kernel) ⟨rfl, rfl⟩ dX6_says_26
theorem c_X6_says {g : z_G} {n : Nat} (a0 : Int32) (a1 : Int32) (a2 : Int32) (a3 : Int32) (a4 : Int32) (a5 : Int32) (S : z_Stt) {v : Bool} {S' : z_Stt} (h : f_X6_says n a0 a1 a2 a3 a4 a5 S = some (v, S')) : z_Ct g M_X6_says 67 [.ref (z_ad g 13), .int a0, .int a1, .int a2, .int a3, .int a4, .int a5] (hp g S) (z_P g (some (.int (bI v))) S') :=
  z_Ct.of (by decide +kernel) rfl (Nat.le_of_ble_eq_true rfl) (fun K cx ce => q_weak (L' := [some (.ref (z_ad g 13)), some (.int a0), some (.int a1), some (.int a2), some (.int a3), some (.int a4), some (.int a5)]) (z_wk_s (z_wk_s (z_wk_s (z_wk_s (z_wk_s (z_wk_s (z_wk_s (z_wk_0)))))))) (t_X6_says n cx ce a0 a1 a2 a3 a4 a5 S h))
