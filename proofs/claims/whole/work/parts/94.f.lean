/-! ACT: the class's goers -/
theorem ow_g (m : Nat) {k : Int32} (hk : 0 ≤ k ∧ k ≤ 7) (S : z_Stt) : f_X5_ownerOf (m + 9) k 0 S = some (if k = 1 ∨ k = 4 ∨ k = 7 then 1 else if k = 6 then 6 else 0, S) := by
  rcases cs08 hk with rfl | rfl | rfl | rfl | rfl | rfl | rfl | rfl <;> rfl
theorem ow_l (m : Nat) {k : Int32} (hk : 0 ≤ k ∧ k ≤ 7) (S : z_Stt) : f_X5_ownerOf (m + 9) k 1 S = some (if k = 3 ∨ k = 5 then 3 else if k = 2 then 2 else if k = 7 then 7 else 0, S) := by
  rcases cs08 hk with rfl | rfl | rfl | rfl | rfl | rfl | rfl | rfl <;> rfl
theorem ow_s (m : Nat) {k : Int32} (hk : 0 ≤ k ∧ k ≤ 7) (S : z_Stt) : f_X5_ownerOf (m + 9) k 2 S = some (if k = 3 ∨ k = 5 then 3 else if k = 4 ∨ k = 7 then 4 else 0, S) := by
  rcases cs08 hk with rfl | rfl | rfl | rfl | rfl | rfl | rfl | rfl <;> rfl
theorem ow_t (m : Nat) {k : Int32} (hk : 0 ≤ k ∧ k ≤ 7) (S : z_Stt) : f_X5_ownerOf (m + 9) k 3 S = some (if k = 5 then 5 else if k = 7 then 7 else 0, S) := by
  rcases cs08 hk with rfl | rfl | rfl | rfl | rfl | rfl | rfl | rfl <;> rfl
/-- one more step of a goer -/
theorem d_step {nb kd k a x d o b ab v : Int32} {l : List Int32} {n j : Nat} (ho : ∀ S, f_X5_ownerOf n k a S = some (o, S)) (h0 : ¬ o < 0) (hd : 0 ≤ d ∧ d ≤ 32) (v1 : ¬ (4 * o + a < 0 ∨ 32 ≤ (4 * o + a).toNatClampNeg)) (v2 : ¬ (o < 0 ∨ 8 ≤ o.toNatClampNeg)) (hb : st_OB (4 * o + a).toNatClampNeg = b) (hk : st_KA o.toNatClampNeg = ab) (H : acC nb kd (f_X5_runs n (g_X5_does n j) b ab x (d + 1)) v l) : acC nb kd ((g_X5_does n (j + 2)).1 k a x d) v (b :: l) := by
  have z := acts_note b (F := fun T => g_bd (f_X5_runs n (g_X5_does n j) b ab x (d + 1) T) fun w U => some (w, U)) (acts_map (fun w => w) H)
  intro S c hc e1 e2 e3
  rw [← z S c hc e1 e2 e3]
  show f_X5_does n (g_X5_does n (j + 1)) k a x d S = _
  unfold f_X5_does
  rw [ho, g_bds, if_neg h0, if_pos hd.2, if_pos v1, hb, hk]
  show g_bd (f_X5_note b S) _ = g_bd (f_X5_note b S) _
  cases f_X5_note b S with
  | none => rfl
  | some p =>
    obtain ⟨u, T⟩ := p
    rw [g_bds, g_bds, if_pos v2]
    rfl
theorem cg_0 {nb kd : Int32} (n j : Nat) (ab x d : Int32) : acC nb kd (f_X5_runs n (g_X5_does n j) 1 ab x d) (x + nb) [] := acts_val (fun S h1 _ => by rw [← h1]; rfl)
theorem cg_k0 {nb kd : Int32} (m j : Nat) (x : Int32) {d : Int32} (hd : 0 ≤ d ∧ d ≤ 32) : acC nb kd ((g_X5_does (m + 9) (j + 2)).1 0 0 x d) (x + nb) [1] :=
  d_step (o := 0) (ab := -1) (fun S => ow_g m (by decide +kernel) S) (by decide +kernel) hd (by decide +kernel) (by decide +kernel) rfl rfl (cg_0 _ _ _ _ _)
theorem c_goes {nb kd : Int32} (m j : Nat) {k : Int32} (hk : 0 ≤ k ∧ k ≤ 7) (x : Int32) {d : Int32} (hd : 0 ≤ d ∧ d ≤ 31) : acC nb kd ((g_X5_does (m + 9) (j + 4)).1 k 0 x d) (vg nb k x) (ng k) := by
  have h1 : 0 ≤ d ∧ d ≤ 32 := ⟨hd.1, by lia⟩
  have h2 : 0 ≤ d + 1 ∧ d + 1 ≤ 32 := by lia
  have z20 : acC nb kd (f_X5_runs (m + 9) (g_X5_does (m + 9) (j + 2)) 20 0 x (d + 1)) (x + nb + 3) [1] := acts_map (fun v => v + 3) (cg_k0 m j x h2)
  have z70 : acC nb kd (f_X5_runs (m + 9) (g_X5_does (m + 9) (j + 2)) 70 0 x (d + 1)) ((x + nb) * 2) [1] := acts_map (fun v => v * 2) (cg_k0 m j x h2)
  have o := ow_g m hk
  rcases cs08 hk with rfl | rfl | rfl | rfl | rfl | rfl | rfl | rfl
  · exact d_step (o := 0) (ab := -1) o (by decide +kernel) h1 (by decide +kernel) (by decide +kernel) rfl rfl (cg_0 _ _ _ _ _)
  · exact d_step (o := 1) (ab := 0) o (by decide +kernel) h1 (by decide +kernel) (by decide +kernel) rfl rfl z20
  · exact d_step (o := 0) (ab := -1) o (by decide +kernel) h1 (by decide +kernel) (by decide +kernel) rfl rfl (cg_0 _ _ _ _ _)
  · exact d_step (o := 0) (ab := -1) o (by decide +kernel) h1 (by decide +kernel) (by decide +kernel) rfl rfl (cg_0 _ _ _ _ _)
  · exact d_step (o := 1) (ab := 0) o (by decide +kernel) h1 (by decide +kernel) (by decide +kernel) rfl rfl z20
  · exact d_step (o := 0) (ab := -1) o (by decide +kernel) h1 (by decide +kernel) (by decide +kernel) rfl rfl (cg_0 _ _ _ _ _)
  · exact d_step (o := 6) (ab := 0) o (by decide +kernel) h1 (by decide +kernel) (by decide +kernel) rfl rfl z70
  · exact d_step (o := 1) (ab := 0) o (by decide +kernel) h1 (by decide +kernel) (by decide +kernel) rfl rfl z20
theorem cs_0 {nb kd : Int32} (n j : Nat) (ab x d : Int32) : acC nb kd (f_X5_runs n (g_X5_does n j) 11 ab x d) (x ^^^ nb) [] := acts_val (fun S h1 _ => by rw [← h1]; rfl)
theorem c_shuts {nb kd : Int32} (hq : 0 ≤ kd ∧ kd ≤ 7) (m j : Nat) {k : Int32} (hk : 0 ≤ k ∧ k ≤ 7) (x : Int32) {d : Int32} (hd : 0 ≤ d ∧ d ≤ 30) : acC nb kd ((g_X5_does (m + 9) (j + 6)).1 k 2 x d) (vs nb kd k x) (ns kd k) := by
  have h1 : 0 ≤ d ∧ d ≤ 32 := ⟨hd.1, by lia⟩
  have h2 : 0 ≤ d + 1 ∧ d + 1 ≤ 32 := by lia
  have h3 : 0 ≤ d + 1 ∧ d + 1 ≤ 31 := by lia
  have k0 : ∀ q : Int32, (q = 1 ∨ q = 2) → acC nb kd ((g_X5_does (m + 9) (j + 4)).1 q 2 x (d + 1)) (x ^^^ nb) [11] := by
    rintro q (rfl | rfl)
    · exact d_step (o := 0) (ab := -1) (fun S => ow_s m (by decide +kernel) S) (by decide +kernel) h2 (by decide +kernel) (by decide +kernel) rfl rfl (cs_0 _ _ _ _ _)
    · exact d_step (o := 0) (ab := -1) (fun S => ow_s m (by decide +kernel) S) (by decide +kernel) h2 (by decide +kernel) (by decide +kernel) rfl rfl (cs_0 _ _ _ _ _)
  have z40 : acC nb kd (f_X5_runs (m + 9) (g_X5_does (m + 9) (j + 4)) 40 2 x (d + 1)) ((x ^^^ nb) * 3) [11] := acts_map (fun v => v * 3) (k0 2 (Or.inr rfl))
  have z50 : acC nb kd (f_X5_runs (m + 9) (g_X5_does (m + 9) (j + 4)) 50 1 x (d + 1)) ((x ^^^ nb) - vg nb kd 2) ([11] ++ ng kd) :=
    acts_two (fun v w => v - w) (by decide) (by decide) (k0 1 (Or.inl rfl)) (acts_own (F := fun k T => (g_X5_does (m + 9) (j + 4)).1 k 0 2 (d + 1) T) (c_goes m j hq 2 h3))
  have o := ow_s m hk
  rcases cs08 hk with rfl | rfl | rfl | rfl | rfl | rfl | rfl | rfl
  · exact d_step (o := 0) (ab := -1) o (by decide +kernel) h1 (by decide +kernel) (by decide +kernel) rfl rfl (cs_0 _ _ _ _ _)
  · exact d_step (o := 0) (ab := -1) o (by decide +kernel) h1 (by decide +kernel) (by decide +kernel) rfl rfl (cs_0 _ _ _ _ _)
  · exact d_step (o := 0) (ab := -1) o (by decide +kernel) h1 (by decide +kernel) (by decide +kernel) rfl rfl (cs_0 _ _ _ _ _)
  · exact d_step (o := 3) (ab := 2) o (by decide +kernel) h1 (by decide +kernel) (by decide +kernel) rfl rfl z40
  · exact d_step (o := 4) (ab := 1) o (by decide +kernel) h1 (by decide +kernel) (by decide +kernel) rfl rfl z50
  · exact d_step (o := 3) (ab := 2) o (by decide +kernel) h1 (by decide +kernel) (by decide +kernel) rfl rfl z40
  · exact d_step (o := 0) (ab := -1) o (by decide +kernel) h1 (by decide +kernel) (by decide +kernel) rfl rfl (cs_0 _ _ _ _ _)
  · exact d_step (o := 4) (ab := 1) o (by decide +kernel) h1 (by decide +kernel) (by decide +kernel) rfl rfl z50
theorem cl_10 {nb kd : Int32} (hq : 0 ≤ kd ∧ kd ≤ 7) (m j : Nat) (ab x : Int32) {d : Int32} (hd : 0 ≤ d ∧ d ≤ 31) : acC nb kd (f_X5_runs (m + 9) (g_X5_does (m + 9) (j + 4)) 10 ab x d) (vg nb kd x * 2) (ng kd) :=
  acts_map (fun v => v * 2) (acts_own (F := fun k T => (g_X5_does (m + 9) (j + 4)).1 k 0 x d T) (c_goes m j hq x hd))
theorem cl_0 {nb kd : Int32} (hq : 0 ≤ kd ∧ kd ≤ 7) (m j : Nat) {k : Int32} (hk : k = 0 ∨ k = 4) (x : Int32) {d : Int32} (hd : 0 ≤ d ∧ d ≤ 30) : acC nb kd ((g_X5_does (m + 9) (j + 6)).1 k 1 x d) (vg nb kd x * 2) (10 :: ng kd) := by
  have h1 : 0 ≤ d ∧ d ≤ 32 := ⟨hd.1, by lia⟩
  have h2 : 0 ≤ d + 1 ∧ d + 1 ≤ 31 := by lia
  rcases hk with rfl | rfl
  · exact d_step (o := 0) (ab := -1) (fun S => ow_l m (by decide +kernel) S) (by decide +kernel) h1 (by decide +kernel) (by decide +kernel) rfl rfl (cl_10 hq m j _ x h2)
  · exact d_step (o := 0) (ab := -1) (fun S => ow_l m (by decide +kernel) S) (by decide +kernel) h1 (by decide +kernel) (by decide +kernel) rfl rfl (cl_10 hq m j _ x h2)
theorem cl_2 {nb kd : Int32} (hq : 0 ≤ kd ∧ kd ≤ 7) (m j : Nat) (x : Int32) {d : Int32} (hd : 0 ≤ d ∧ d ≤ 29) : acC nb kd ((g_X5_does (m + 9) (j + 8)).1 2 1 x d) (-(vg nb kd x * 2)) (30 :: 10 :: ng kd) := by
  have h1 : 0 ≤ d ∧ d ≤ 32 := ⟨hd.1, by lia⟩
  have h2 : 0 ≤ d + 1 ∧ d + 1 ≤ 30 := by lia
  exact d_step (o := 2) (ab := 0) (fun S => ow_l m (by decide +kernel) S) (by decide +kernel) h1 (by decide +kernel) (by decide +kernel) rfl rfl (acts_map (fun v => -v) (cl_0 hq m j (Or.inl rfl) x h2))
theorem c_looks {nb kd : Int32} (hq : 0 ≤ kd ∧ kd ≤ 7) (m j : Nat) {k : Int32} (hk : 0 ≤ k ∧ k ≤ 7) (x : Int32) {d : Int32} (hd : 0 ≤ d ∧ d ≤ 28) : acC nb kd ((g_X5_does (m + 9) (j + 10)).1 k 1 x d) (vl nb kd k x) (nl kd k) := by
  have h1 : 0 ≤ d ∧ d ≤ 32 := ⟨hd.1, by lia⟩
  have h2 : 0 ≤ d + 1 ∧ d + 1 ≤ 29 := by lia
  have h3 : 0 ≤ d + 1 ∧ d + 1 ≤ 30 := by lia
  have h4 : 0 ≤ d + 1 ∧ d + 1 ≤ 31 := by lia
  have h5 : 0 ≤ d ∧ d ≤ 29 := ⟨hd.1, by lia⟩
  have z41 : acC nb kd (f_X5_runs (m + 9) (g_X5_does (m + 9) (j + 8)) 41 2 x (d + 1)) (-(vg nb kd (x + 1) * 2)) (30 :: 10 :: ng kd) := acts_map (fun v => v) (cl_2 hq m j (x + 1) h2)
  have z80 : acC nb kd (f_X5_runs (m + 9) (g_X5_does (m + 9) (j + 8)) 80 4 x (d + 1)) (vg nb kd x * 2 + vs nb kd kd 2) ((10 :: ng kd) ++ ns kd kd) :=
    acts_two (fun v w => v + w) (by decide) (by decide) (cl_0 hq m (j + 2) (Or.inr rfl) x h3) (acts_own (F := fun k T => (g_X5_does (m + 9) (j + 8)).1 k 2 2 (d + 1) T) (c_shuts hq m (j + 2) hq 2 h3))
  have o := ow_l m hk
  rcases cs08 hk with rfl | rfl | rfl | rfl | rfl | rfl | rfl | rfl
  · exact d_step (o := 0) (ab := -1) o (by decide +kernel) h1 (by decide +kernel) (by decide +kernel) rfl rfl (cl_10 hq m (j + 4) _ x h4)
  · exact d_step (o := 0) (ab := -1) o (by decide +kernel) h1 (by decide +kernel) (by decide +kernel) rfl rfl (cl_10 hq m (j + 4) _ x h4)
  · exact cl_2 hq m (j + 2) x h5
  · exact d_step (o := 3) (ab := 2) o (by decide +kernel) h1 (by decide +kernel) (by decide +kernel) rfl rfl z41
  · exact d_step (o := 0) (ab := -1) o (by decide +kernel) h1 (by decide +kernel) (by decide +kernel) rfl rfl (cl_10 hq m (j + 4) _ x h4)
  · exact d_step (o := 3) (ab := 2) o (by decide +kernel) h1 (by decide +kernel) (by decide +kernel) rfl rfl z41
  · exact d_step (o := 0) (ab := -1) o (by decide +kernel) h1 (by decide +kernel) (by decide +kernel) rfl rfl (cl_10 hq m (j + 4) _ x h4)
  · exact d_step (o := 7) (ab := 4) o (by decide +kernel) h1 (by decide +kernel) (by decide +kernel) rfl rfl z80
theorem ct_2 {nb kd : Int32} (hq : 0 ≤ kd ∧ kd ≤ 7) (m j : Nat) (ab x : Int32) {d : Int32} (hd : 0 ≤ d ∧ d ≤ 28) : acC nb kd (f_X5_runs (m + 9) (g_X5_does (m + 9) (j + 10)) 2 ab x d) (vl nb kd kd x - vs nb kd kd 1) (nl kd kd ++ ns kd kd) :=
  acts_two (fun v w => v - w) (by decide) (by decide) (acts_own (F := fun k T => (g_X5_does (m + 9) (j + 10)).1 k 1 x d T) (c_looks hq m j hq x hd)) (acts_own (F := fun k T => (g_X5_does (m + 9) (j + 10)).1 k 2 1 d T) (c_shuts hq m (j + 4) hq 1 ⟨hd.1, by lia⟩))
theorem ct_0 {nb kd : Int32} (hq : 0 ≤ kd ∧ kd ≤ 7) (m j : Nat) {k : Int32} (hk : k = 3 ∨ k = 4) (x : Int32) {d : Int32} (hd : 0 ≤ d ∧ d ≤ 27) : acC nb kd ((g_X5_does (m + 9) (j + 12)).1 k 3 x d) (vl nb kd kd x - vs nb kd kd 1) (2 :: (nl kd kd ++ ns kd kd)) := by
  have h1 : 0 ≤ d ∧ d ≤ 32 := ⟨hd.1, by lia⟩
  have h2 : 0 ≤ d + 1 ∧ d + 1 ≤ 28 := by lia
  rcases hk with rfl | rfl
  · exact d_step (o := 0) (ab := -1) (fun S => ow_t m (by decide +kernel) S) (by decide +kernel) h1 (by decide +kernel) (by decide +kernel) rfl rfl (ct_2 hq m j _ x h2)
  · exact d_step (o := 0) (ab := -1) (fun S => ow_t m (by decide +kernel) S) (by decide +kernel) h1 (by decide +kernel) (by decide +kernel) rfl rfl (ct_2 hq m j _ x h2)
theorem c_tells {nb kd : Int32} (hq : 0 ≤ kd ∧ kd ≤ 7) (m j : Nat) {k : Int32} (hk : 0 ≤ k ∧ k ≤ 7) (x : Int32) {d : Int32} (hd : 0 ≤ d ∧ d ≤ 26) : acC nb kd ((g_X5_does (m + 9) (j + 14)).1 k 3 x d) (vt nb kd k x) (nt kd k) := by
  have h1 : 0 ≤ d ∧ d ≤ 32 := ⟨hd.1, by lia⟩
  have h2 : 0 ≤ d + 1 ∧ d + 1 ≤ 27 := by lia
  have h3 : 0 ≤ d + 1 ∧ d + 1 ≤ 28 := by lia
  have z60 : acC nb kd (f_X5_runs (m + 9) (g_X5_does (m + 9) (j + 12)) 60 3 x (d + 1)) ((vl nb kd kd x - vs nb kd kd 1) ^^^ 5) (2 :: (nl kd kd ++ ns kd kd)) := acts_map (fun v => v ^^^ 5) (ct_0 hq m j (Or.inl rfl) x h2)
  have z81 : acC nb kd (f_X5_runs (m + 9) (g_X5_does (m + 9) (j + 12)) 81 4 x (d + 1)) (vl nb kd kd x - vs nb kd kd 1 - 1) (2 :: (nl kd kd ++ ns kd kd)) := acts_map (fun v => v - 1) (ct_0 hq m j (Or.inr rfl) x h2)
  have z2 := fun ab => ct_2 (nb := nb) hq m (j + 2) ab x h3
  have o := ow_t m hk
  rcases cs08 hk with rfl | rfl | rfl | rfl | rfl | rfl | rfl | rfl
  · exact d_step (o := 0) (ab := -1) o (by decide +kernel) h1 (by decide +kernel) (by decide +kernel) rfl rfl (z2 _)
  · exact d_step (o := 0) (ab := -1) o (by decide +kernel) h1 (by decide +kernel) (by decide +kernel) rfl rfl (z2 _)
  · exact d_step (o := 0) (ab := -1) o (by decide +kernel) h1 (by decide +kernel) (by decide +kernel) rfl rfl (z2 _)
  · exact d_step (o := 0) (ab := -1) o (by decide +kernel) h1 (by decide +kernel) (by decide +kernel) rfl rfl (z2 _)
  · exact d_step (o := 0) (ab := -1) o (by decide +kernel) h1 (by decide +kernel) (by decide +kernel) rfl rfl (z2 _)
  · exact d_step (o := 5) (ab := 3) o (by decide +kernel) h1 (by decide +kernel) (by decide +kernel) rfl rfl z60
  · exact d_step (o := 0) (ab := -1) o (by decide +kernel) h1 (by decide +kernel) (by decide +kernel) rfl rfl (z2 _)
  · exact d_step (o := 7) (ab := 4) o (by decide +kernel) h1 (by decide +kernel) (by decide +kernel) rfl rfl z81
