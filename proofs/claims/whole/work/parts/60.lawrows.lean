/-! THE CLAIM OUT OF ONE WALK OF THE LAW'S BODY. Your part is whole_start (and what it stands on); all else here is the same for every law, but numbers. -/
def R_law : String := "HasShutLaw"
def lw_P (b : Addr) (xs : List Int32) (args : Array Value) (s : State) : Prop := args = #[.ref b] ∧ s.IntsAt b xs ∧ xs.length ≤ 3072 ∧ (Jvm.Cond.and given_1 narrow_1).before args s = true
def lw_Q (_ : Array Value) (s : State) (o : Outcome) (t : State) : Prop := o = .returned (some (.int 1)) ∧ Framed s o t [] 600000 7302249
def lw_Z (below : List Frame) (a : Array Value) (s : State) : State → Prop := fun t => ∃ o, t.status = .running ∧ Ended t below o ∧ lw_Q a s o t
/-- the law's own end, with 1 on the stack, nothing written that was there before, its room as the claim has it -/
theorem lw_ret {p : Program} {l : Launch} {e : Env} {s : State} {m : MethodId} {below : List Frame} {meth : Method} {c : Code} {b : Nat} (hx : p.tables.exec = Jvm.exec) (hb : c.code = code) (hr : meth.sig.returnType = ret) (hlocks : meth.locks = false) {pc : Nat} {H : Heap} {ls : Array Slot} (hdg : decode code pc = .ok (.ireturn, 1)) : W p l e room_1 s m #[Value.ref b] below meth c H [] 600000 7302249 (lw_Z below #[Value.ref b] s) (F0 m pc ls [.int 1]) := by
  intro T hT X
  obtain ⟨fs, hret, hrun, hended, hW, hframe⟩ := X.leave (v := some (.int 1)) (hlocks := hlocks) (fun h => by rw [hr] at h; cases h)
  have hmeth' : T.vm.method? m = some meth := X.method'
  refine ⟨T.setFrames fs, ?_, .returned (some (.int 1)), hrun, hended, rfl, ⟨_, rfl⟩, hW, hframe⟩
  jvm_step X.here [X.here.top, hx, hb, hdg, hmeth', hr, ret, narrow_b1]
  (try refine ⟨rfl, ?_⟩); (try refine ⟨rfl, ?_⟩)
  first | (intro acts; rw [hret _ acts rfl rfl rfl]) | rw [hret _ _ rfl rfl rfl]
  exact Steps.refl _
/-- what holds at the law's entry: the machine, the code, the tables' words (any of lw_tbl by 'hts w (by decide +kernel)'), the script of L ints xs at the cell b, what the Statement gives of the start (any of its parts by flat_of_before) -/
def lw_At (p : Program) (s : State) (m : MethodId) (meth : Method) (c : Code) (b L : Nat) (xs : Nat → Int32) : Prop :=
  p.tables.exec = Jvm.exec ∧ c.code = code ∧ meth.sig.returnType = ret ∧ c.maxLocals = 4 ∧ s.vm.findClass R_law = some m.cls ∧ (∀ w ∈ lw_tbl, w.before #[Value.ref b] s = true) ∧ va_X b L xs s s.heap ∧ b < s.heap.size ∧ meth.locks = false ∧ (Jvm.Cond.and given_1 narrow_1).before #[Value.ref b] s = true
/-- what the law's own activation knows beside z_C: its script, that nothing that was there before is written, its end -/
def z_LK (K : z_K) (b nx : Nat) (xs : Nat → Int32) : Prop := va_X b nx xs (z_s K) (z_s K).heap ∧ b < (z_s K).heap.size ∧ (z_A K = fun q : Nat => (z_s K).heap.size ≤ q) ∧ z_R K = room_1 ∧ z_a K = #[Value.ref b] ∧ z_Q K = lw_Z (z_b K) #[Value.ref b] (z_s K) ∧ z_ce K ≤ 600000 ∧ z_sl K ≤ 7302249 ∧ (z_me K).sig.returnType = ret ∧ (z_me K).locks = false
abbrev M_L_law : z_M := (RL, yL_law, cL_law, 4, some .boolean)
theorem z_LK.nA {K : z_K} {b nx : Nat} {xs : Nat → Int32} (lx : z_LK K b nx xs) : ¬ z_A K b := by
  rw [lx.2.2.1]
  exact Nat.not_le.mpr lx.2.1
theorem z_sld {g : z_G} {M : z_M} {d pc : Nat} {K : z_K} {L : List (Option Value)} {st : List Value} {sh : z_H} {b nx : Nat} {xs : Nat → Int32} {i : Int32} (cx : z_C g M d K) (lx : z_LK K b nx xs) (hin : vp_in i nx) (hd : decode M.2.2.1 pc = .ok (.iaload, 1)) (k : z_At g M K (pc + 1) L (.int (xs i.toNatClampNeg) :: st) sh) : z_At g M K pc L (.int i :: .ref b :: st) sh :=
  fun H locs ls hW hS hl => va_sld cx.1 cx.2.1 lx.1 lx.2.1 lx.nA hS hin hd (k H locs ls hW hS hl)
theorem z_slen {g : z_G} {M : z_M} {d pc : Nat} {K : z_K} {L : List (Option Value)} {st : List Value} {sh : z_H} {b nx : Nat} {xs : Nat → Int32} (cx : z_C g M d K) (lx : z_LK K b nx xs) (hd : decode M.2.2.1 pc = .ok (.arraylength, 1)) (k : z_At g M K (pc + 1) L (.int (Int32.ofNat nx) :: st) sh) : z_At g M K pc L (.ref b :: st) sh :=
  fun H locs ls hW hS hl => va_slen cx.1 cx.2.1 lx.1 lx.2.1 lx.nA hS hd (k H locs ls hW hS hl)
theorem z_lawend {g : z_G} {d pc : Nat} {K : z_K} {L : List (Option Value)} {sh : z_H} {b nx : Nat} {xs : Nat → Int32} (cx : z_C g M_L_law d K) (lx : z_LK K b nx xs) (hd : decode cL_law pc = .ok (.ireturn, 1)) : z_At g M_L_law K pc L [.int 1] sh := by
  intro H locs ls hW hS hl
  obtain ⟨-, -, hA, hR, ha, hQ, hce, hsl, hr, hlk⟩ := lx
  refine va_forget (fun q hq => ?_) ?_
  · have h := hS.2.2 q hq
    rw [hA] at h
    exact h
  refine W.widen hce hsl ?_
  rw [hR, ha, hQ]
  exact lw_ret cx.1 cx.2.1 hr hlk hd
