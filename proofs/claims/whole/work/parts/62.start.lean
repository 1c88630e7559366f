/-- the state behind both constructors -/
def S0I (n : Nat) : Int32 := if n = 705 then (-1) else if n = 1005 then (-1) else if n = 1306 then (-1) else if n = 3601 then (-1) else if n = 3801 then (-1) else if n = 4001 then (-1) else if n = 4201 then (-1) else if n = 4401 then (-1) else if n = 4601 then (-1) else if n = 4816 then (-1) else if n = 4830 then (-1) else 0
def S0J (n : Nat) : Int64 := if n = 1701 then 1 else if n = 1804 then 1 else if n = 2201 then 1 else if n = 2301 then 1 else if n = 2401 then 1 else if n = 2501 then 1 else if n = 2601 then 1 else if n = 2701 then 1 else 0
def S0A (k : Nat) : Nat → Int32 := if k = 2 then wf_X9_1_38 else if k = 49 then wf_X11_48_44 else if k = 66 then wf_X11_48_6 else fun _ => 0
def S0R (n : Nat) : Nat := if n = 1300 then 14 else if n = 1302 then 15 else 0
def S0 : z_Stt := (S0I, S0J, S0A, fun _ _ => 0, S0R)
set_option maxRecDepth 100000 in
set_option maxHeartbeats 4000000 in
theorem S0_cells (g : z_G) (sh : z_H) : ∀ k, k < NC → ¬ k = 19 → ¬ k = 35 → w_law g sh k = hp g S0 k := fun k hk h1 h2 => match k, hk, h1, h2 with
  | 0, _, _, _ => rfl
  | 1, _, _, _ => rfl
  | 2, _, _, _ => rfl
  | 3, _, _, _ => rfl
  | 4, _, _, _ => rfl
  | 5, _, _, _ => rfl
  | 6, _, _, _ => rfl
  | 7, _, _, _ => rfl
  | 8, _, _, _ => rfl
  | 9, _, _, _ => rfl
  | 10, _, _, _ => rfl
  | 11, _, _, _ => rfl
  | 12, _, _, _ => rfl
  | 13, _, _, _ => rfl
  | 14, _, _, _ => rfl
  | 15, _, _, _ => rfl
  | 16, _, _, _ => rfl
  | 17, _, _, _ => rfl
  | 18, _, _, _ => rfl
  | 19, _, h1, h2 => absurd rfl h1
  | 20, _, _, _ => rfl
  | 21, _, _, _ => rfl
  | 22, _, _, _ => rfl
  | 23, _, _, _ => rfl
  | 24, _, _, _ => rfl
  | 25, _, _, _ => rfl
  | 26, _, _, _ => rfl
  | 27, _, _, _ => rfl
  | 28, _, _, _ => rfl
  | 29, _, _, _ => rfl
  | 30, _, _, _ => rfl
  | 31, _, _, _ => rfl
  | 32, _, _, _ => rfl
  | 33, _, _, _ => rfl
  | 34, _, _, _ => rfl
  | 35, _, h1, h2 => absurd rfl h2
  | 36, _, _, _ => rfl
  | 37, _, _, _ => rfl
  | 38, _, _, _ => rfl
  | 39, _, _, _ => rfl
  | 40, _, _, _ => rfl
  | 41, _, _, _ => rfl
  | 42, _, _, _ => rfl
  | 43, _, _, _ => rfl
  | 44, _, _, _ => rfl
  | 45, _, _, _ => rfl
  | 46, _, _, _ => rfl
  | 47, _, _, _ => rfl
  | 48, _, _, _ => rfl
  | 49, _, _, _ => rfl
  | 50, _, _, _ => rfl
  | 51, _, _, _ => rfl
  | 52, _, _, _ => rfl
  | 53, _, _, _ => rfl
  | 54, _, _, _ => rfl
  | 55, _, _, _ => rfl
  | 56, _, _, _ => rfl
  | 57, _, _, _ => rfl
  | 58, _, _, _ => rfl
  | 59, _, _, _ => rfl
  | 60, _, _, _ => rfl
  | 61, _, _, _ => rfl
  | 62, _, _, _ => rfl
  | 63, _, _, _ => rfl
  | 64, _, _, _ => rfl
  | 65, _, _, _ => rfl
  | 66, _, _, _ => rfl
  | 67, _, _, _ => rfl
  | 68, _, _, _ => rfl
  | 69, _, _, _ => rfl
  | n + 70, h, _, _ => absurd h (by simp [NC])
set_option maxRecDepth 100000 in
set_option maxHeartbeats 4000000 in
theorem S0_19 (g : z_G) (sh : z_H) : ∃ f : Nat → Option Nat, w_law g sh 19 = .inl (z_ac g 3, 6, .inr (.inr (.inr (.inr f)))) ∧ ∀ j, j < 6 → f j = some (z_ad g (22 + j)) := ⟨wf_X2_18_6 g, rfl, fun j hj => match j, hj with
  | 0, _ => rfl
  | 1, _ => rfl
  | 2, _ => rfl
  | 3, _ => rfl
  | 4, _ => rfl
  | 5, _ => rfl
  | n + 6, h => absurd h (by omega)⟩
set_option maxRecDepth 100000 in
set_option maxHeartbeats 4000000 in
theorem S0_35 (g : z_G) (sh : z_H) : ∃ f : Nat → Option Nat, w_law g sh 35 = .inl (z_ac g 4, 6, .inr (.inr (.inr (.inr f)))) ∧ ∀ j, j < 6 → f j = some (z_ad g (36 + 2 * j)) := ⟨wf_X10_0_6 g, rfl, fun j hj => match j, hj with
  | 0, _ => rfl
  | 1, _ => rfl
  | 2, _ => rfl
  | 3, _ => rfl
  | 4, _ => rfl
  | 5, _ => rfl
  | n + 6, h => absurd h (by omega)⟩
theorem arrV_ext {cA : ClassId} {n : Nat} {f f1 : Nat → Value} (h : ∀ j, j < n → f j = f1 j) : arrV cA n f = arrV cA n f1 := by
  unfold arrV
  congr 2
  funext j
  exact h j.val j.isLt
theorem S0_W {g : z_G} {sh : z_H} {H : Heap} (h : y_W g 70 (w_law g sh) H) : z_W g (hp g S0) H := by
  intro k q hq
  obtain ⟨hk, rfl⟩ := z_ws_of hq
  have h1 := h k (z_ad g k, w_law g sh k) (y_ws_get hk)
  by_cases e1 : k = 19
  · subst e1
    obtain ⟨f, hf, hv⟩ := S0_19 g sh
    rw [hf] at h1
    have h1 : H[z_ad g 19]? = some (vp_cell (z_ac g 3) (6, .inr (.inr (.inr (.inr f))))) := h1
    show H[z_ad g 19]? = some (vp_cell (z_ac g 3) (6, .inr (.inr (.inr (.inr (fun i => some (z_ad g (22 + i))))))))
    rw [h1, vp_cell_q, vp_cell_q]
    exact congrArg some (arrV_ext (fun j hj => by rw [hv j hj]))
  · by_cases e2 : k = 35
    · subst e2
      obtain ⟨f, hf, hv⟩ := S0_35 g sh
      rw [hf] at h1
      have h1 : H[z_ad g 35]? = some (vp_cell (z_ac g 4) (6, .inr (.inr (.inr (.inr f))))) := h1
      show H[z_ad g 35]? = some (vp_cell (z_ac g 4) (6, .inr (.inr (.inr (.inr (fun i => some (z_ad g (36 + 2 * i))))))))
      rw [h1, vp_cell_q, vp_cell_q]
      exact congrArg some (arrV_ext (fun j hj => by rw [hv j hj]))
    · rw [S0_cells g sh k hk e1 e2] at h1
      exact h1

theorem ti_0 : Cond.instantiable RX0 5 ∈ z_TB := tb_18
theorem ti_1 : Cond.instantiable RX1 7 ∈ z_TB := tb_22
theorem ti_2 : Cond.instantiable RX2 6 ∈ z_TB := tb_36
theorem ti_3 : Cond.instantiable RX3 3 ∈ z_TB := tb_44
theorem ti_4 : Cond.instantiable RX4 2 ∈ z_TB := tb_32
theorem ti_5 : Cond.instantiable RX5 6 ∈ z_TB := tb_48
theorem ti_6 : Cond.instantiable RX6 7 ∈ z_TB := tb_28
theorem ti_7 : Cond.instantiable RX7 4 ∈ z_TB := tb_40
theorem ti_8 : Cond.instantiable RX8 5 ∈ z_TB := tb_53
theorem ti_9 : Cond.instantiable RX9 2 ∈ z_TB := tb_14
theorem ti_10 : Cond.instantiable RX10 12 ∈ z_TB := tb_1
theorem ti_11 : Cond.instantiable RX11 46 ∈ z_TB := tb_4
theorem st_known {s : State} {b : Nat} (hts : ∀ w ∈ lw_tbl, w.before #[Value.ref b] s = true) : ∃ (dC : Nat → ClassId) (dI : Nat → Nat → Nat), ∀ (k : Nat) (q : vw_C), vwCl[k]? = some q → u_Kn s q.1 q.2.1 q.2.2 (dC k) (dI k) := by
  obtain ⟨c0, i0, h0⟩ := u_known (C := RX0) (T := TX0) (N := 5) (n := 5) hts (fun w h => z_TB_in (tf_X0 w h)) (hts _ (z_TB_in ti_0))
  obtain ⟨c1, i1, h1⟩ := u_known (C := RX1) (T := TX1) (N := 7) (n := 7) hts (fun w h => z_TB_in (tf_X1 w h)) (hts _ (z_TB_in ti_1))
  obtain ⟨c2, i2, h2⟩ := u_known (C := RX2) (T := TX2) (N := 6) (n := 6) hts (fun w h => z_TB_in (tf_X2 w h)) (hts _ (z_TB_in ti_2))
  obtain ⟨c3, i3, h3⟩ := u_known (C := RX3) (T := TX3) (N := 3) (n := 3) hts (fun w h => z_TB_in (tf_X3 w h)) (hts _ (z_TB_in ti_3))
  obtain ⟨c4, i4, h4⟩ := u_known (C := RX4) (T := TX4) (N := 2) (n := 2) hts (fun w h => z_TB_in (tf_X4 w h)) (hts _ (z_TB_in ti_4))
  obtain ⟨c5, i5, h5⟩ := u_known (C := RX5) (T := TX5) (N := 6) (n := 6) hts (fun w h => z_TB_in (tf_X5 w h)) (hts _ (z_TB_in ti_5))
  obtain ⟨c6, i6, h6⟩ := u_known (C := RX6) (T := TX6) (N := 7) (n := 7) hts (fun w h => z_TB_in (tf_X6 w h)) (hts _ (z_TB_in ti_6))
  obtain ⟨c7, i7, h7⟩ := u_known (C := RX7) (T := TX7) (N := 4) (n := 4) hts (fun w h => z_TB_in (tf_X7 w h)) (hts _ (z_TB_in ti_7))
  obtain ⟨c8, i8, h8⟩ := u_known (C := RX8) (T := TX8) (N := 5) (n := 5) hts (fun w h => z_TB_in (tf_X8 w h)) (hts _ (z_TB_in ti_8))
  obtain ⟨c9, i9, h9⟩ := u_known (C := RX9) (T := TX9) (N := 2) (n := 2) hts (fun w h => z_TB_in (tf_X9 w h)) (hts _ (z_TB_in ti_9))
  obtain ⟨c10, i10, h10⟩ := u_known (C := RX10) (T := TX10) (N := 12) (n := 12) hts (fun w h => z_TB_in (tf_X10 w h)) (hts _ (z_TB_in ti_10))
  obtain ⟨c11, i11, h11⟩ := u_known (C := RX11) (T := TX11) (N := 46) (n := 46) hts (fun w h => z_TB_in (tf_X11 w h)) (hts _ (z_TB_in ti_11))
  refine ⟨fun k => if k = 0 then c0 else if k = 1 then c1 else if k = 2 then c2 else if k = 3 then c3 else if k = 4 then c4 else if k = 5 then c5 else if k = 6 then c6 else if k = 7 then c7 else if k = 8 then c8 else if k = 9 then c9 else if k = 10 then c10 else c11, fun k => if k = 0 then i0 else if k = 1 then i1 else if k = 2 then i2 else if k = 3 then i3 else if k = 4 then i4 else if k = 5 then i5 else if k = 6 then i6 else if k = 7 then i7 else if k = 8 then i8 else if k = 9 then i9 else if k = 10 then i10 else i11, ?_⟩
  intro k q hq
  match k, hq with
  | 0, hq => cases hq; exact h0
  | 1, hq => cases hq; exact h1
  | 2, hq => cases hq; exact h2
  | 3, hq => cases hq; exact h3
  | 4, hq => cases hq; exact h4
  | 5, hq => cases hq; exact h5
  | 6, hq => cases hq; exact h6
  | 7, hq => cases hq; exact h7
  | 8, hq => cases hq; exact h8
  | 9, hq => cases hq; exact h9
  | 10, hq => cases hq; exact h10
  | 11, hq => cases hq; exact h11
  | k + 12, hq => simp [vwCl] at hq
theorem st_arr {s : State} {args : Array Value} {ty : FieldType} (hp : (∃ n, ty = .object n) ∨ True) (h : ∃ (cA : ClassId) (kA : Class) (comp : ClassId), s.vm.findClass ("[" ++ ty.toString) = some cA ∧ s.vm.classes[cA]? = some kA ∧ kA.kind = .array comp ty) : ∃ cA : ClassId, ArrOfT s cA ty ∧ s.vm.findClass ("[" ++ ty.toString) = some cA := by
  obtain ⟨cA, kA, comp, h1, h2, h3⟩ := h
  exact ⟨cA, fun N z => ⟨(fun k h => by cases h), kA, h2, comp, h3⟩, h1⟩
/-- what the tables say of the rows' classes -/
theorem st_tys {s : State} {args : Array Value} (hi : (Cond.arrayClass .int).before args s = true) (hl : (Cond.arrayClass .long).before args s = true) (hz : (Cond.arrayClass .boolean).before args s = true) (hF : (Cond.arrayOver (.object "HasShut$Fraction")).before args s = true) (hS : (Cond.arrayOver (.object "HasShut$Shelf")).before args s = true) :
    ∃ ac : Nat → ClassId, ∀ (k : Nat) (q : ClassId × FieldType), ([(ac 0, .int), (ac 1, .long), (ac 2, .boolean), (ac 3, .object "HasShut$Fraction"), (ac 4, .object "HasShut$Shelf")] : List (ClassId × FieldType))[k]? = some q → ArrOfT s q.1 q.2 ∧ va_RA s q.1 q.2 := by
  obtain ⟨c0, k0, m0, a0, b0, d0⟩ := Cond.arrayClass_spec hi
  obtain ⟨c1, k1, m1, a1, b1, d1⟩ := Cond.arrayClass_spec hl
  obtain ⟨c2, k2, m2, a2, b2, d2⟩ := Cond.arrayClass_spec hz
  obtain ⟨m3, c3, k3, e3, -, b3, d3, a3⟩ := Cond.arrayOver_spec hF
  obtain ⟨m4, c4, k4, e4, -, b4, d4, a4⟩ := Cond.arrayOver_spec hS
  refine ⟨fun k => if k = 0 then c0 else if k = 1 then c1 else if k = 2 then c2 else if k = 3 then c3 else c4, ?_⟩
  intro k q hq
  match k, hq with
  | 0, hq => cases hq; exact ⟨fun N z => ⟨(fun k h => by cases h), k0, b0, m0, d0⟩, a0⟩
  | 1, hq => cases hq; exact ⟨fun N z => ⟨(fun k h => by cases h), k1, b1, m1, d1⟩, a1⟩
  | 2, hq => cases hq; exact ⟨fun N z => ⟨(fun k h => by cases h), k2, b2, m2, d2⟩, a2⟩
  | 3, hq => cases hq; exact ⟨fun N z => ⟨(fun k h => by cases h), k3, b3, m3, d3⟩, k3, m3, b3, d3, e3, a3⟩
  | 4, hq => cases hq; exact ⟨fun N z => ⟨(fun k h => by cases h), k4, b4, m4, d4⟩, k4, m4, b4, d4, e4, a4⟩
  | k + 5, hq => simp at hq
/-- a static row of whole numbers -/
theorem st_tab {s : State} {args : Array Value} {A : Nat → Prop} {C n : String} {N : Nat} {f : Nat → Int32} (hgv : (Jvm.Cond.and given_1 narrow_1).before args s = true) (hN : N < 2 ^ 31) (hl : (Cond.laysStatic C n "[I").before args s = true) (hini : (Cond.initialized C).before args s = true)
    (h1 : Cond.arrayOf (.static C n "[I") .int ∈ flatC (Jvm.Cond.and given_1 narrow_1)) (h2 : Cond.eq (.length (.static C n "[I")) (.int (Int32.ofNat N)) ∈ flatC (Jvm.Cond.and given_1 narrow_1)) (h3 : ∀ j, j < N → Cond.eq (.elem (.static C n "[I") (.int (Int32.ofNat j))) (.int (f j)) ∈ flatC (Jvm.Cond.and given_1 narrow_1)) (hA : ∀ a : Nat, a < s.heap.size → ¬ A a) : ∃ t : Nat, z_S1 t N C n f A s s.heap := by
  have hf := flat_of_before _ hgv
  obtain ⟨t, ht, hT⟩ := va_Tof (A := A) (f := fun j => .int (f j)) hN (hf _ h1) (va_eqt (hf _ h2)) (fun j hj => va_eqt (hf _ (h3 j hj))) hA
  exact ⟨t, va_Zref hl hini ht hA, hT⟩
