/-! ACT: what each kind does -/
def vg (nb k x : Int32) : Int32 := if k = 1 ∨ k = 4 ∨ k = 7 then x + nb + 3 else if k = 6 then (x + nb) * 2 else x + nb
def ng (k : Int32) : List Int32 := if k = 1 ∨ k = 4 ∨ k = 7 then [20, 1] else if k = 6 then [70, 1] else [1]
def vs (nb kd k x : Int32) : Int32 := if k = 3 ∨ k = 5 then (x ^^^ nb) * 3 else if k = 4 ∨ k = 7 then (x ^^^ nb) - vg nb kd 2 else x ^^^ nb
def ns (kd k : Int32) : List Int32 := if k = 3 ∨ k = 5 then [40, 11] else if k = 4 ∨ k = 7 then 50 :: ([11] ++ ng kd) else [11]
def vl (nb kd k x : Int32) : Int32 := if k = 3 ∨ k = 5 then -(vg nb kd (x + 1) * 2) else if k = 2 then -(vg nb kd x * 2) else if k = 7 then vg nb kd x * 2 + vs nb kd kd 2 else vg nb kd x * 2
def nl (kd k : Int32) : List Int32 := if k = 3 ∨ k = 5 then 41 :: 30 :: 10 :: ng kd else if k = 2 then 30 :: 10 :: ng kd else if k = 7 then 80 :: ((10 :: ng kd) ++ ns kd kd) else 10 :: ng kd
def vt (nb kd k x : Int32) : Int32 := if k = 5 then (vl nb kd kd x - vs nb kd kd 1) ^^^ 5 else if k = 7 then vl nb kd kd x - vs nb kd kd 1 - 1 else vl nb kd kd x - vs nb kd kd 1
def nt (kd k : Int32) : List Int32 := if k = 5 then 60 :: 2 :: (nl kd kd ++ ns kd kd) else if k = 7 then 81 :: 2 :: (nl kd kd ++ ns kd kd) else 2 :: (nl kd kd ++ ns kd kd)
abbrev acR (nb kd : Int32) := acts 4839 65 4841 4840 nb kd
abbrev acC (nb kd : Int32) := acts 3203 34 3204 3205 nb kd
theorem rg_0 {nb kd : Int32} (x : Int32) : acR nb kd (fun S => g_bd (f_X11_begins 1 S) fun _ T => some (x + T.1 4841, T)) (x + nb) [1] :=
  acts_begins 1 (F := fun T => some (x + T.1 4841, T)) (acts_val (fun S h1 _ => by rw [h1]))
theorem rg_20 {nb kd : Int32} (j : Nat) (x : Int32) : acR nb kd (f_X11_goesAs_16 (g_X11_goesAs (j + 1)) x) (x + nb + 3) [20, 1] :=
  acts_begins 20 (F := fun T => g_bd (g_X11_goesAs (j + 1) 0 x T) fun v U => some (v + 3, U)) (acts_map (fun v => v + 3) (rg_0 x))
theorem rg_70 {nb kd : Int32} (j : Nat) (x : Int32) : acR nb kd (g_X11_goesAs (j + 2) 6 x) ((x + nb) * 2) [70, 1] :=
  acts_begins 70 (F := fun T => g_bd (g_X11_goesAs (j + 1) 0 x T) fun v U => some (v * 2, U)) (acts_map (fun v => v * 2) (rg_0 x))
theorem r_goes {nb kd : Int32} (j : Nat) {k : Int32} (hk : 0 ≤ k ∧ k ≤ 7) (x : Int32) : acR nb kd (g_X11_goesAs (j + 2) k x) (vg nb k x) (ng k) := by
  rcases cs08 hk with rfl | rfl | rfl | rfl | rfl | rfl | rfl | rfl
  · exact rg_0 x
  · exact rg_20 j x
  · exact rg_0 x
  · exact rg_0 x
  · exact rg_20 j x
  · exact rg_0 x
  · exact rg_70 j x
  · exact rg_20 j x
theorem rs_0 {nb kd : Int32} (x : Int32) : acR nb kd (fun S => g_bd (f_X11_begins 11 S) fun _ T => some (x ^^^ T.1 4841, T)) (x ^^^ nb) [11] :=
  acts_begins 11 (F := fun T => some (x ^^^ T.1 4841, T)) (acts_val (fun S h1 _ => by rw [h1]))
theorem rs_40 {nb kd : Int32} (j : Nat) (x : Int32) : acR nb kd (f_X11_shutsAs_10 (g_X11_shutsAs (j + 1)) x) ((x ^^^ nb) * 3) [40, 11] :=
  acts_begins 40 (F := fun T => g_bd (g_X11_shutsAs (j + 1) 2 x T) fun v U => some (v * 3, U)) (acts_map (fun v => v * 3) (rs_0 x))
theorem rs_50 {nb kd : Int32} (hd : 0 ≤ kd ∧ kd ≤ 7) (j : Nat) (x : Int32) : acR nb kd (f_X11_shutsAs_36 (g_X11_shutsAs (j + 1)) x) ((x ^^^ nb) - vg nb kd 2) (50 :: ([11] ++ ng kd)) :=
  acts_begins 50 (F := fun T => g_bd (g_X11_shutsAs (j + 1) 1 x T) fun v U => g_bd (g_X11_goesAs 64 (U.1 4840) 2 U) fun w W => some (v - w, W)) (acts_two (fun v w => v - w) (by decide) (by decide) (rs_0 x) (acts_own (F := fun k T => g_X11_goesAs 64 k 2 T) (r_goes 62 hd 2)))
theorem r_shuts {nb kd : Int32} (hd : 0 ≤ kd ∧ kd ≤ 7) (j : Nat) {k : Int32} (hk : 0 ≤ k ∧ k ≤ 7) (x : Int32) : acR nb kd (g_X11_shutsAs (j + 2) k x) (vs nb kd k x) (ns kd k) := by
  rcases cs08 hk with rfl | rfl | rfl | rfl | rfl | rfl | rfl | rfl
  · exact rs_0 x
  · exact rs_0 x
  · exact rs_0 x
  · exact rs_40 j x
  · exact rs_50 hd j x
  · exact rs_40 j x
  · exact rs_0 x
  · exact rs_50 hd j x
theorem rl_0 {nb kd : Int32} (hd : 0 ≤ kd ∧ kd ≤ 7) (x : Int32) : acR nb kd (fun S => g_bd (f_X11_begins 10 S) fun _ T => g_bd (g_X11_goesAs 64 (T.1 4840) x T) fun v U => some (v * 2, U)) (vg nb kd x * 2) (10 :: ng kd) :=
  acts_begins 10 (F := fun T => g_bd (g_X11_goesAs 64 (T.1 4840) x T) fun v U => some (v * 2, U)) (acts_map (fun v => v * 2) (acts_own (F := fun k T => g_X11_goesAs 64 k x T) (r_goes 62 hd x)))
theorem rl_2 {nb kd : Int32} (hd : 0 ≤ kd ∧ kd ≤ 7) (j : Nat) (x : Int32) : acR nb kd (g_X11_looksAs (j + 2) 2 x) (-(vg nb kd x * 2)) (30 :: 10 :: ng kd) :=
  acts_begins 30 (F := fun T => g_bd (g_X11_looksAs (j + 1) 0 x T) fun v U => some (-v, U)) (acts_map (fun v => -v) (rl_0 hd x))
theorem rl_3 {nb kd : Int32} (hd : 0 ≤ kd ∧ kd ≤ 7) (j : Nat) (x : Int32) : acR nb kd (f_X11_looksAs_10 (g_X11_looksAs (j + 2)) x) (-(vg nb kd (x + 1) * 2)) (41 :: 30 :: 10 :: ng kd) :=
  acts_begins 41 (F := fun T => g_bd (g_X11_looksAs (j + 2) 2 (x + 1) T) fun v U => some (v, U)) (acts_map (fun v => v) (rl_2 hd j (x + 1)))
theorem rl_7 {nb kd : Int32} (hd : 0 ≤ kd ∧ kd ≤ 7) (j : Nat) (x : Int32) : acR nb kd (g_X11_looksAs (j + 2) 7 x) (vg nb kd x * 2 + vs nb kd kd 2) (80 :: ((10 :: ng kd) ++ ns kd kd)) :=
  acts_begins 80 (F := fun T => g_bd (g_X11_looksAs (j + 1) 4 x T) fun v U => g_bd (g_X11_shutsAs 64 (U.1 4840) 2 U) fun w W => some (v + w, W)) (acts_two (fun v w => v + w) (by decide) (by decide) (rl_0 hd x) (acts_own (F := fun k T => g_X11_shutsAs 64 k 2 T) (r_shuts hd 62 hd 2)))
theorem r_looks {nb kd : Int32} (hd : 0 ≤ kd ∧ kd ≤ 7) (j : Nat) {k : Int32} (hk : 0 ≤ k ∧ k ≤ 7) (x : Int32) : acR nb kd (g_X11_looksAs (j + 3) k x) (vl nb kd k x) (nl kd k) := by
  rcases cs08 hk with rfl | rfl | rfl | rfl | rfl | rfl | rfl | rfl
  · exact rl_0 hd x
  · exact rl_0 hd x
  · exact rl_2 hd (j + 1) x
  · exact rl_3 hd j x
  · exact rl_0 hd x
  · exact rl_3 hd j x
  · exact rl_0 hd x
  · exact rl_7 hd (j + 1) x
theorem rt_0 {nb kd : Int32} (hd : 0 ≤ kd ∧ kd ≤ 7) (x : Int32) : acR nb kd (fun S => g_bd (f_X11_begins 2 S) fun _ T => g_bd (g_X11_looksAs 64 (T.1 4840) x T) fun v U => g_bd (g_X11_shutsAs 64 (U.1 4840) 1 U) fun w W => some (v - w, W)) (vl nb kd kd x - vs nb kd kd 1) (2 :: (nl kd kd ++ ns kd kd)) :=
  acts_begins 2 (F := fun T => g_bd (g_X11_looksAs 64 (T.1 4840) x T) fun v U => g_bd (g_X11_shutsAs 64 (U.1 4840) 1 U) fun w W => some (v - w, W)) (acts_two (fun v w => v - w) (by decide) (by decide) (acts_own (F := fun k T => g_X11_looksAs 64 k x T) (r_looks hd 61 hd x)) (acts_own (F := fun k T => g_X11_shutsAs 64 k 1 T) (r_shuts hd 62 hd 1)))
theorem r_tells {nb kd : Int32} (hd : 0 ≤ kd ∧ kd ≤ 7) (j : Nat) {k : Int32} (hk : 0 ≤ k ∧ k ≤ 7) (x : Int32) : acR nb kd (g_X11_tellsAs (j + 2) k x) (vt nb kd k x) (nt kd k) := by
  rcases cs08 hk with rfl | rfl | rfl | rfl | rfl | rfl | rfl | rfl
  · exact rt_0 hd x
  · exact rt_0 hd x
  · exact rt_0 hd x
  · exact rt_0 hd x
  · exact rt_0 hd x
  · exact acts_begins 60 (F := fun T => g_bd (g_X11_tellsAs (j + 1) 3 x T) fun v U => some (v ^^^ 5, U)) (acts_map (fun v => v ^^^ 5) (rt_0 hd x))
  · exact rt_0 hd x
  · exact acts_begins 81 (F := fun T => g_bd (g_X11_tellsAs (j + 1) 4 x T) fun v U => some (v - 1, U)) (acts_map (fun v => v - 1) (rt_0 hd x))
