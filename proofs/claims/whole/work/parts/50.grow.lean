def y_ws (ad : Nat → Nat) (N : Nat) (sh : z_H) : va_W := (List.range N).map fun k => (ad k, sh k)
theorem y_ws_get {ad : Nat → Nat} {N : Nat} {sh : z_H} {k : Nat} (hk : k < N) : (y_ws ad N sh)[k]? = some (ad k, sh k) := by
  have h : (List.range N)[k]? = some k := List.getElem?_range hk
  unfold y_ws
  rw [List.getElem?_map, h]
  rfl
theorem y_ws_of {ad : Nat → Nat} {N : Nat} {sh : z_H} {k : Nat} {q : Nat × va_E} (h : (y_ws ad N sh)[k]? = some q) : k < N ∧ q = (ad k, sh k) := by
  have hl : k < (y_ws ad N sh).length := (List.getElem?_eq_some_iff.mp h).1
  have hk : k < N := by simpa [y_ws] using hl
  rw [y_ws_get hk] at h
  exact ⟨hk, (Option.some.inj h).symm⟩
theorem y_ws_set {ad : Nat → Nat} {N : Nat} {sh : z_H} {k : Nat} {e : va_E} : (y_ws ad N sh).set k (ad k, e) = y_ws ad N (z_u sh k e) := by
  apply List.ext_getElem?
  intro i
  rw [List.getElem?_set]
  by_cases hi : i < N
  · rw [y_ws_get (sh := z_u sh k e) hi]
    by_cases hk : k = i
    · subst hk
      have hl : k < (y_ws ad N sh).length := by simpa [y_ws] using hi
      rw [if_pos rfl, if_pos hl, z_u_same]
    · rw [if_neg hk, y_ws_get hi, z_u_ne (fun q => hk q.symm)]
  · have hn : ∀ sh' : z_H, (y_ws ad N sh')[i]? = none := by
      intro sh'
      apply List.getElem?_eq_none
      simpa [y_ws] using Nat.le_of_not_lt hi
    have hl : ¬ i < (y_ws ad N sh).length := by simpa [y_ws] using hi
    rw [hn (z_u sh k e)]
    by_cases hk : k = i
    · subst hk
      rw [if_pos rfl, if_neg hl]
    · rw [if_neg hk, hn sh]
/-- two writes to one cell with one to another between: the first is lost -/
theorem z_u_sw {sh : z_H} {k n : Nat} {e f a : va_E} (h : n ≠ k) : z_u (z_u (z_u sh k e) n a) k f = z_u (z_u sh n a) k f := by
  rw [z_u_comm (fun q => h q.symm), z_u_u]
def y_NB : List Cond := [.methodLinkNest "HasShut" 18 yX0_init "HasShut", .methodLinkNest "HasShut" 25 yX1_init "HasShut", .methodLinkNest "HasShut" 39 yX6_init "HasShut", .methodLinkNest "HasShut" 46 yX4_init "HasShut", .methodLinkNest "HasShut" 60 yX7_init "HasShut", .methodLinkNest "HasShut" 67 yX3_init "HasShut", .methodLinkNest "HasShut" 74 yX5_init "HasShut", .methodLinkNest "HasShut" 85 yX8_init "HasShut", .methodLinkNest "HasShut$Doubts" 36 yX4_init "HasShut"]
def y_A (g : z_G) : Nat → Prop := fun q => z_ad g 0 ≤ q
def y_E (g : z_G) (U : State) : Prop := va_K (z_D g) vwCl (z_tys g) U ∧ (∀ k, z_ad g k = z_ad g 0 + k) ∧ (∀ w ∈ y_NB, va_Nw w U) ∧ va_AO "HasShut$Fraction" U ∧ va_AO "HasShut$Shelf" U
theorem y_NB_warm {s U : State} (hW : s.WarmedH U.vm) (h : ∀ w ∈ y_NB, va_Nw w s) : ∀ w ∈ y_NB, va_Nw w U := by
  intro w hw
  have hz := h w hw
  simp only [y_NB, List.mem_cons, List.not_mem_nil, or_false] at hw
  rcases hw with rfl | rfl | rfl | rfl | rfl | rfl | rfl | rfl | rfl <;> exact va_Nw.warmM hW hz
theorem y_NB_same {s U : State} (hv : s.vm = U.vm) (h : ∀ w ∈ y_NB, va_Nw w s) : ∀ w ∈ y_NB, va_Nw w U := by
  intro w hw
  have hz := h w hw
  simp only [y_NB, List.mem_cons, List.not_mem_nil, or_false] at hw
  rcases hw with rfl | rfl | rfl | rfl | rfl | rfl | rfl | rfl | rfl <;> exact va_Nw.same rfl hv hz
theorem y_E.warm {g : z_G} {s U : State} (hW : s.WarmedH U.vm) (h : y_E g s) : y_E g U := ⟨va_K.moved hW.alike h.1, h.2.1, y_NB_warm hW h.2.2.1, va_AO.moved hW.alike h.2.2.2.1, va_AO.moved hW.alike h.2.2.2.2⟩
theorem y_E.same {g : z_G} {s U : State} (hv : s.vm = U.vm) (h : y_E g s) : y_E g U := by
  have ha : s.vm.Alike U.vm := by rw [hv]; exact Vm.Alike.refl _
  exact ⟨va_K.moved ha h.1, h.2.1, y_NB_same hv h.2.2.1, va_AO.moved ha h.2.2.2.1, va_AO.moved ha h.2.2.2.2⟩
/-- the cells so far; the next one will lie at z_ad g N -/
def y_W (g : z_G) (N : Nat) (sh : z_H) (H : Heap) : Prop := va_P (z_D g) vwCl (y_ws (z_ad g) N sh) H
def y_At (g : z_G) (M : z_M) (K : z_K) (N ce sl pc : Nat) (L : List (Option Value)) (st : List Value) (sh : z_H) : Prop :=
  ∀ (H : Heap) (locs : List Loc) (ls : Array Slot), y_W g N sh H → va_S (z_A K) (z_s K).heap H locs → z_l ls M.2.2.2.1 L → W (z_p K) g.1 (z_e K) (z_R K) (z_s K) (z_m K) (z_a K) (z_b K) (z_me K) (z_c K) H locs ce sl (z_Q K) (F0 (z_m K) pc ls st)
def y_C (g : z_G) (M : z_M) (d mc ms N0 : Nat) (K : z_K) : Prop :=
  (z_p K).tables.exec = Jvm.exec ∧ (z_c K).code = M.2.2.1 ∧ (z_c K).maxLocals = M.2.2.2.1 ∧ (z_s K).vm.findClass M.1 = some (z_m K).cls ∧ (∀ w ∈ z_TB, w.before (z_a K) (z_s K) = true) ∧ y_E g (z_s K) ∧ (∀ k, z_A K (z_ad g k)) ∧ d ≤ (z_R K).frames ∧ 50 * d ≤ (z_R K).locals ∧ mc ≤ (z_R K).cells ∧ ms ≤ (z_R K).slots ∧ (z_s K).heap.size = z_ad g N0
def y_rm (d mc ms : Nat) : Room := { frames := d, cells := mc, slots := ms, locals := 50 * d }
def y_Qm (g : z_G) (N : Nat) (sh : z_H) : Array Value → State → Outcome → State → Prop := fun _ st oc t => (oc = .returned none ∧ y_W g N sh t.heap) ∧ va_F (y_A g) st t
def y_Pc (g : z_G) (N : Nat) (av : List Value) (sh : z_H) : Array Value → State → Prop := va_Pc av (fun U => y_E g U ∧ y_W g N sh U.heap ∧ U.heap.size = z_ad g N)
/-- a constructor's contract: over N cells sh it makes mc more with ms slots; then they are N1 cells sh1 -/
def y_Ct (g : z_G) (M : z_M) (d mc ms N N1 : Nat) (av : List Value) (sh sh1 : z_H) : Prop :=
  Met g.1 M.2.1 (.code M.2.1 M.2.2.1 M.2.2.2.1 M.2.2.2.2 :: z_TB) (y_rm d mc ms) (y_Pc g N av sh) (y_Qm g N1 sh1) mc ms (y_A g)
def y_E' (g : z_G) (M : z_M) (mc ms N1 : Nat) (sh1 : z_H) (K : z_K) : Prop :=
  (z_me K).sig.returnType = M.2.2.2.2 ∧ (z_me K).locks = false ∧ (z_me K).name = "<init>" ∧ z_Q K = MQ (z_b K) (y_Qm g N1 sh1) (z_a K) (z_s K) mc ms (z_A K) ∧ z_A K = y_A g
theorem y_dis {g : z_G} {s : State} {B : Nat → Prop} {N : Nat} {sh : z_H} (h : y_E g s) (hA : ∀ k, B (z_ad g k)) : va_D B (y_ws (z_ad g) N sh) := by
  refine ⟨fun i j p q hp hq e => ?_, fun k q hq => ?_⟩
  · obtain ⟨h1, rfl⟩ := y_ws_of hp
    obtain ⟨h2, rfl⟩ := y_ws_of hq
    have e : z_ad g i = z_ad g j := e
    rw [h.2.1 i, h.2.1 j] at e
    omega
  · obtain ⟨h1, rfl⟩ := y_ws_of hq
    exact hA k
set_option maxHeartbeats 4000000 in
theorem y_Ct.of {g : z_G} {M : z_M} {d mc ms N N1 : Nat} {av : List Value} {sh sh1 : z_H} (hy : plainName M.2.1.cls = true) (hc : M.2.1.cls = M.1) (hi : M.2.1.name = "<init>") (hn : (lg_sl av).length ≤ M.2.2.2.1)
    (body : ∀ K : z_K, y_C g M d mc ms N K → y_E' g M mc ms N1 sh1 K → y_At g M K N 0 0 0 (z_en av) [] sh) : y_Ct g M d mc ms N N1 av sh sh1 := by
  refine Met.ofW (cc := M.2.2.1) (maxL := M.2.2.2.1) (ret := M.2.2.2.2) hy rfl ?_
  intro p e s m args below meth c s₁ B hml hv
  obtain ⟨rfl, hE, hW, hz⟩ := hv
  have hts := atoms_spec (ws := (.code M.2.1 M.2.2.1 M.2.2.2.1 M.2.2.2.2 :: z_TB)) B.pre
  have hown : s.vm.findClass M.1 = some m.cls := hc ▸ findClass_of_methodNamed B.named
  have hin : meth.name = "<init>" := hi ▸ (name_of_methodNamed B.named B.method).1
  have hb := body (p, e, (headSpec (.code M.2.1 M.2.2.1 M.2.2.2.1 M.2.2.2.2 :: z_TB) (y_rm d mc ms)).room, s, m, av.toArray, below, meth, c, 0, 0, MQ below (y_Qm g N1 sh1) av.toArray s mc ms (y_A g), y_A g) ⟨B.exec, B.bytes, hml, hown, fun w hw => hts w (List.mem_cons_of_mem _ hw), hE, fun k => by show z_ad g 0 ≤ z_ad g k; rw [hE.2.1 k]; exact Nat.le_add_right _ _, Nat.le_refl _, Nat.le_refl _, Nat.le_refl _, Nat.le_refl _, hz⟩ ⟨B.returns, B.notSynchronized, hin, rfl, rfl⟩
  rw [lg_entry_eq]
  refine hb s.heap [] _ hW va_S.rf ?_
  unfold z_l
  rw [z_en_args]
  exact lv_entry av hn
theorem y_iconst {g : z_G} {M : z_M} {d mc ms N0 N ce sl pc : Nat} {K : z_K} {L : List (Option Value)} {st : List Value} {sh : z_H} {n : Int} {v : Int32} (cx : y_C g M d mc ms N0 K) (hv : Int32.ofInt n = v) (hd : decode M.2.2.1 pc = .ok (.iconst n, 1)) (k : y_At g M K N ce sl (pc + 1) L (.int v :: st) sh) : y_At g M K N ce sl pc L st sh :=
  fun H locs ls hW hS hl => lv_iconst cx.1 cx.2.1 hd hv (k H locs ls hW hS hl)
theorem y_bipush {g : z_G} {M : z_M} {d mc ms N0 N ce sl pc : Nat} {K : z_K} {L : List (Option Value)} {st : List Value} {sh : z_H} {n : Int} {v : Int32} (cx : y_C g M d mc ms N0 K) (hv : (Int8.ofInt n).toInt32 = v) (hd : decode M.2.2.1 pc = .ok (.bipush n, 2)) (k : y_At g M K N ce sl (pc + 2) L (.int v :: st) sh) : y_At g M K N ce sl pc L st sh :=
  fun H locs ls hW hS hl => lv_bipush cx.1 cx.2.1 hd hv (k H locs ls hW hS hl)
theorem y_sipush {g : z_G} {M : z_M} {d mc ms N0 N ce sl pc : Nat} {K : z_K} {L : List (Option Value)} {st : List Value} {sh : z_H} {n : Int} {v : Int32} (cx : y_C g M d mc ms N0 K) (hv : (Int16.ofInt n).toInt32 = v) (hd : decode M.2.2.1 pc = .ok (.sipush n, 3)) (k : y_At g M K N ce sl (pc + 3) L (.int v :: st) sh) : y_At g M K N ce sl pc L st sh :=
  fun H locs ls hW hS hl => lv_sipush cx.1 cx.2.1 hd hv (k H locs ls hW hS hl)
theorem y_lconst {g : z_G} {M : z_M} {d mc ms N0 N ce sl pc : Nat} {K : z_K} {L : List (Option Value)} {st : List Value} {sh : z_H} {n : Fin 2} {v : Int64} (cx : y_C g M d mc ms N0 K) (hv : Int64.ofNat (n : Nat) = v) (hd : decode M.2.2.1 pc = .ok (.lconst n, 1)) (k : y_At g M K N ce sl (pc + 1) L (.long v :: st) sh) : y_At g M K N ce sl pc L st sh :=
  fun H locs ls hW hS hl => lv_lconst cx.1 cx.2.1 hd hv (k H locs ls hW hS hl)
theorem y_iload_n {g : z_G} {M : z_M} {d mc ms N0 N ce sl pc : Nat} {K : z_K} {L : List (Option Value)} {st : List Value} {sh : z_H} {n : Fin 4} {i : Nat} {x : Int32} (cx : y_C g M d mc ms N0 K) (hi : (n : Nat) = i) (hk : L[i]? = some (some (.int x))) (hd : decode M.2.2.1 pc = .ok (.iload_n n, 1)) (k : y_At g M K N ce sl (pc + 1) L (.int x :: st) sh) : y_At g M K N ce sl pc L st sh :=
  fun H locs ls hW hS hl => lv_iload_n cx.1 cx.2.1 hd hi (hl.at hk) (k H locs ls hW hS hl)
theorem y_istore_n {g : z_G} {M : z_M} {d mc ms N0 N ce sl pc : Nat} {K : z_K} {L : List (Option Value)} {st : List Value} {sh : z_H} {n : Fin 4} {i : Nat} {x : Int32} {L' : List (Option Value)} (cx : y_C g M d mc ms N0 K) (hi : (n : Nat) = i) (hn : i < M.2.2.2.1) (hL : z_st1 L i (.int x) = L') (hd : decode M.2.2.1 pc = .ok (.istore_n n, 1)) (k : y_At g M K N ce sl (pc + 1) L' st sh) : y_At g M K N ce sl pc L (.int x :: st) sh :=
  fun H locs ls hW hS hl => lv_istore_n (lv' := _) cx.1 cx.2.1 hd hi hl hn rfl (fun ls' h' => k H locs ls' hW hS (hL ▸ z_l.of1 h'))
theorem y_aload_n {g : z_G} {M : z_M} {d mc ms N0 N ce sl pc : Nat} {K : z_K} {L : List (Option Value)} {st : List Value} {sh : z_H} {n : Fin 4} {i : Nat} {x : Nat} (cx : y_C g M d mc ms N0 K) (hi : (n : Nat) = i) (hk : L[i]? = some (some (.ref x))) (hd : decode M.2.2.1 pc = .ok (.aload_n n, 1)) (k : y_At g M K N ce sl (pc + 1) L (.ref x :: st) sh) : y_At g M K N ce sl pc L st sh :=
  fun H locs ls hW hS hl => lv_aload_n cx.1 cx.2.1 hd hi (hl.at hk) (k H locs ls hW hS hl)
theorem y_astore_n {g : z_G} {M : z_M} {d mc ms N0 N ce sl pc : Nat} {K : z_K} {L : List (Option Value)} {st : List Value} {sh : z_H} {n : Fin 4} {i : Nat} {x : Nat} {L' : List (Option Value)} (cx : y_C g M d mc ms N0 K) (hi : (n : Nat) = i) (hn : i < M.2.2.2.1) (hL : z_st1 L i (.ref x) = L') (hd : decode M.2.2.1 pc = .ok (.astore_n n, 1)) (k : y_At g M K N ce sl (pc + 1) L' st sh) : y_At g M K N ce sl pc L (.ref x :: st) sh :=
  fun H locs ls hW hS hl => lv_astore_n (lv' := _) cx.1 cx.2.1 hd hi hl hn rfl (fun ls' h' => k H locs ls' hW hS (hL ▸ z_l.of1 h'))
theorem y_iinc {g : z_G} {M : z_M} {d mc ms N0 N ce sl pc : Nat} {K : z_K} {L : List (Option Value)} {st : List Value} {sh : z_H} {i : Nat} {n : Int} {x c : Int32} {L' : List (Option Value)} (cx : y_C g M d mc ms N0 K) (hk : L[i]? = some (some (.int x))) (hv : x + Int32.ofInt n = c) (hn : i < M.2.2.2.1) (hL : z_st1 L i (.int c) = L') (hd : decode M.2.2.1 pc = .ok (.iinc i n, 3)) (k : y_At g M K N ce sl (pc + 3) L' st sh) : y_At g M K N ce sl pc L st sh := by
  intro H locs ls hW hS hl
  have hm : (i, Value.int x) ∈ z_lv 0 L := (z_lv_mem L 0 i _).mpr ⟨i, by omega, hk⟩
  obtain ⟨q, hq⟩ := List.getElem?_of_mem hm
  exact lv_iinc (lv' := _) cx.1 cx.2.1 hd hl hq hv hn rfl (fun ls' h' => k H locs ls' hW hS (hL ▸ z_l.of1 h'))
theorem y_iadd {g : z_G} {M : z_M} {d mc ms N0 N ce sl pc : Nat} {K : z_K} {L : List (Option Value)} {st : List Value} {sh : z_H} {x y v : Int32} (cx : y_C g M d mc ms N0 K) (hv : x + y = v) (hd : decode M.2.2.1 pc = .ok (.iadd, 1)) (k : y_At g M K N ce sl (pc + 1) L (.int v :: st) sh) : y_At g M K N ce sl pc L (.int y :: .int x :: st) sh :=
  fun H locs ls hW hS hl => lv_iadd cx.1 cx.2.1 hd (by rw [hv]; exact k H locs ls hW hS hl)
theorem y_dup {g : z_G} {M : z_M} {d mc ms N0 N ce sl pc : Nat} {K : z_K} {L : List (Option Value)} {st : List Value} {sh : z_H} {a : Value} (cx : y_C g M d mc ms N0 K) (ha : a.category = 1) (hd : decode M.2.2.1 pc = .ok (.dup, 1)) (k : y_At g M K N ce sl (pc + 1) L (a :: a :: st) sh) : y_At g M K N ce sl pc L (a :: st) sh :=
  fun H locs ls hW hS hl => lv_dup cx.1 cx.2.1 hd ha (k H locs ls hW hS hl)
theorem y_ge_t {g : z_G} {M : z_M} {d mc ms N0 N ce sl pc : Nat} {K : z_K} {L : List (Option Value)} {st : List Value} {sh : z_H} {x y : Int32} {off : Int} {tgt : Nat} (cx : y_C g M d mc ms N0 K) (hc : y ≤ x) (ht : (pc : Int) + off = (tgt : Int)) (hd : decode M.2.2.1 pc = .ok (.if_icmp .ge off, 3)) (k : y_At g M K N ce sl tgt L st sh) : y_At g M K N ce sl pc L (.int y :: .int x :: st) sh :=
  fun H locs ls hW hS hl => lv_icmp_ge cx.1 cx.2.1 hd ht (fun _ => k H locs ls hW hS hl) (fun q => absurd hc q)
theorem y_ge_f {g : z_G} {M : z_M} {d mc ms N0 N ce sl pc : Nat} {K : z_K} {L : List (Option Value)} {st : List Value} {sh : z_H} {x y : Int32} {off : Int} {tgt : Nat} (cx : y_C g M d mc ms N0 K) (hc : ¬ y ≤ x) (ht : (pc : Int) + off = (tgt : Int)) (hd : decode M.2.2.1 pc = .ok (.if_icmp .ge off, 3)) (k : y_At g M K N ce sl (pc + 3) L st sh) : y_At g M K N ce sl pc L (.int y :: .int x :: st) sh :=
  fun H locs ls hW hS hl => lv_icmp_ge cx.1 cx.2.1 hd ht (fun q => absurd q hc) (fun _ => k H locs ls hW hS hl)
theorem y_goto {g : z_G} {M : z_M} {d mc ms N0 N ce sl pc : Nat} {K : z_K} {L : List (Option Value)} {st : List Value} {sh : z_H} {off : Int} {tgt : Nat} (cx : y_C g M d mc ms N0 K) (ht : (pc : Int) + off = (tgt : Int)) (hd : decode M.2.2.1 pc = .ok (.goto off, 3)) (k : y_At g M K N ce sl tgt L st sh) : y_At g M K N ce sl pc L st sh :=
  fun H locs ls hW hS hl => lv_goto cx.1 cx.2.1 hd ht (k H locs ls hW hS hl)
theorem y_getf {g : z_G} {M : z_M} {d mc ms N0 N ce sl pc : Nat} {K : z_K} {L : List (Option Value)} {st : List Value} {sh : z_H} {ci NF idx j i : Nat} {C ref : String} {T : u_T} {ty : Nat → FieldType} {fs : List Value} {v : Value} (cx : y_C g M d mc ms N0 K) (hcl : z_cl ci C T NF ty) (hj : j < NF) (hl0 : Cond.fieldLink M.1 idx ref (T j).2.1 (T j).2.2.1 ∈ z_TB) (hr : (T j).1 = ref) (hi : i < N) (hs : sh i = .inr (ci, fs)) (hv : fs[j]? = some v) (hd : decode M.2.2.1 pc = .ok (.getfield idx, 3)) (k : y_At g M K N ce sl (pc + 3) L (v :: st) sh) : y_At g M K N ce sl pc L (.ref (z_ad g i) :: st) sh := by
  intro H locs ls hW hS hl
  subst hr
  exact va_get cx.1 cx.2.1 cx.2.2.2.2.1 hcl.2.1 cx.2.2.2.1 cx.2.2.2.2.2.1.1 hW i (by rw [y_ws_get hi, hs]) hcl.1 j hj (cx.2.2.2.2.1 _ hl0) (fun _ h => h) hv hd (k H locs ls hW hS hl)
theorem y_putf {g : z_G} {M : z_M} {d mc ms N0 N ce sl pc : Nat} {K : z_K} {L : List (Option Value)} {st : List Value} {sh : z_H} {ci NF idx j i : Nat} {C ref : String} {T : u_T} {ty : Nat → FieldType} {fs : List Value} {v : Value} {fs1 : List Value} {sh1 : z_H} (cx : y_C g M d mc ms N0 K) (hcl : z_cl ci C T NF ty) (hj : j < NF) (hl0 : Cond.fieldLink M.1 idx ref (T j).2.1 (T j).2.2.1 ∈ z_TB) (hr : (T j).1 = ref) (hf : (T j).2.2.2 = false)  (hn : narrow (ty j) v = v) (hfit : fits (ty j) v = true) (hi : i < N) (hs : sh i = .inr (ci, fs)) (hset : fs.set j v = fs1) (hsh : z_u sh i (.inr (ci, fs1)) = sh1) (hlen : j < fs.length) (hd : decode M.2.2.1 pc = .ok (.putfield idx, 3)) (k : y_At g M K N ce sl (pc + 3) L st sh1) : y_At g M K N ce sl pc L (v :: .ref (z_ad g i) :: st) sh := by
  intro H locs ls hW hS hl
  subst hr
  refine va_put cx.1 cx.2.1 cx.2.2.2.2.1 hcl.2.1 ty hcl.2.2.1 hcl.2.2.2 cx.2.2.2.1 cx.2.2.2.2.2.1.1 hW (y_dis cx.2.2.2.2.2.1 cx.2.2.2.2.2.2.1) hS i (by rw [y_ws_get hi, hs]) hcl.1 j hj (cx.2.2.2.2.1 _ hl0) (fun _ h => h) hf (hcl.2.2.1 j hj) hn hfit hlen hd (fun H1 locs1 hP hD1 hS1 => ?_)
  rw [y_ws_set, hset, hsh] at hP
  exact k H1 locs1 ls hP hS1 hl
theorem y_putF {g : z_G} {M : z_M} {d mc ms N0 N ce sl pc : Nat} {K : z_K} {L : List (Option Value)} {st : List Value} {sh : z_H} {ci NF idx j i : Nat} {C ref : String} {T : u_T} {ty : Nat → FieldType} {fs : List Value} {v : Value} {fs1 : List Value} {sh1 : z_H} (cx : y_C g M d mc ms N0 K) (hcl : z_cl ci C T NF ty) (hj : j < NF) (hl0 : Cond.fieldLink M.1 idx ref (T j).2.1 (T j).2.2.1 ∈ z_TB) (hr : (T j).1 = ref) (hf : (T j).2.2.2 = true) (ce' : (z_me K).name = "<init>") (hdc : (T j).1 = M.1) (hn : narrow (ty j) v = v) (hfit : fits (ty j) v = true) (hi : i < N) (hs : sh i = .inr (ci, fs)) (hset : fs.set j v = fs1) (hsh : z_u sh i (.inr (ci, fs1)) = sh1) (hlen : j < fs.length) (hd : decode M.2.2.1 pc = .ok (.putfield idx, 3)) (k : y_At g M K N ce sl (pc + 3) L st sh1) : y_At g M K N ce sl pc L (v :: .ref (z_ad g i) :: st) sh := by
  intro H locs ls hW hS hl
  subst hr
  refine va_putF cx.1 cx.2.1 cx.2.2.2.2.1 hcl.2.1 ty hcl.2.2.1 hcl.2.2.2 cx.2.2.2.1 cx.2.2.2.2.2.1.1 hW (y_dis cx.2.2.2.2.2.1 cx.2.2.2.2.2.2.1) hS i (by rw [y_ws_get hi, hs]) hcl.1 j hj (cx.2.2.2.2.1 _ hl0) (fun _ h => h) hf ce' hdc (hcl.2.2.1 j hj) hn hfit hlen hd (fun H1 locs1 hP hD1 hS1 => ?_)
  rw [y_ws_set, hset, hsh] at hP
  exact k H1 locs1 ls hP hS1 hl
/-- the heap's size, out of what stands and what was made -/
theorem y_size {g : z_G} {M : z_M} {d mc ms N0 N ce sl : Nat} {K : z_K} {sh : z_H} {H : Heap} {locs : List Loc} {f : JFrame} (cx : y_C g M d mc ms N0 K) (hN : N0 + ce = N) (hW : y_W g N sh H) (hS : va_S (z_A K) (z_s K).heap H locs)
    (k : H.size = z_ad g N → W (z_p K) g.1 (z_e K) (z_R K) (z_s K) (z_m K) (z_a K) (z_b K) (z_me K) (z_c K) H locs ce sl (z_Q K) f) : W (z_p K) g.1 (z_e K) (z_R K) (z_s K) (z_m K) (z_a K) (z_b K) (z_me K) (z_c K) H locs ce sl (z_Q K) f := by
  intro T hT X
  have h1 : T.heap.size ≤ (z_s K).heap.size + ce := X.same.2.2.1
  have h0 := cx.2.2.2.2.2.2.2.2.2.2.2
  have had := cx.2.2.2.2.2.1.2.1
  rw [hT, h0, had N0] at h1
  refine k ?_ T hT X
  have h3 : z_ad g 0 + N ≤ H.size := by
    cases N with
    | zero =>
      have := hS.1
      rw [h0, had N0] at this
      omega
    | succ n =>
      have h4 := (hW n (z_ad g n, sh n) (y_ws_get (Nat.lt_succ_self n))).lt
      have h4 : z_ad g n < H.size := h4
      rw [had n] at h4
      omega
  rw [had N]
  omega
theorem y_ws_push {ad : Nat → Nat} {N : Nat} {sh : z_H} {e : va_E} : y_ws ad N sh ++ [(ad N, e)] = y_ws ad (N + 1) (z_u sh N e) := by
  apply List.ext_getElem?
  intro i
  by_cases hi : i < N
  · rw [List.getElem?_append_left (by simpa [y_ws] using hi), y_ws_get hi, y_ws_get (by omega), z_u_ne (by omega)]
  · by_cases he : i = N
    · subst he
      rw [List.getElem?_append_right (by simp [y_ws]), y_ws_get (by omega), z_u_same]
      simp [y_ws]
    · rw [List.getElem?_eq_none (by simp [y_ws]; omega), List.getElem?_eq_none (by simp [y_ws]; omega)]
theorem y_newa_int {g : z_G} {M : z_M} {d mc ms N0 N ce sl pc : Nat} {K : z_K} {L : List (Option Value)} {st : List Value} {sh : z_H} {n : Int32} {k1 N1 ce1 sl1 : Nat} {sh1 : z_H} (cx : y_C g M d mc ms N0 K) (ha : Cond.arrayClass .int ∈ z_TB) (hN : N0 + ce = N) (hn : ¬ n < 0) (hk : n.toNatClampNeg = k1) (hb : k1 * 8 ≤ 536870912) (h1 : N + 1 = N1) (h2 : ce + 1 = ce1) (h3 : sl + k1 = sl1) (h4 : ce1 ≤ mc) (h5 : sl1 ≤ ms) (hsh : z_u sh N (.inl (z_ac g 0, k1, .inl (fun _ => 0))) = sh1) (hd : decode M.2.2.1 pc = .ok (.newarray .int, 2)) (k : y_At g M K N1 ce1 sl1 (pc + 2) L (.ref (z_ad g N) :: st) sh1) : y_At g M K N ce sl pc L (.int n :: st) sh := by
  intro H locs ls hW hS hl
  refine y_size cx hN hW hS (fun hz => ?_)
  have q := cx.2.2.2.2.2.2.2.2.2
  subst h1; subst h2; subst h3; subst hsh
  refine va_newaK (atype := .int) cx.1 cx.2.1 (cx.2.2.2.2.1 _ ha) rfl hd rfl hn hk (by show k1 * componentBytes .int ≤ _; have : k1 * componentBytes .int ≤ k1 * 8 := Nat.mul_le_mul_left _ (by decide); omega) (by omega) (by omega) hz fun H1 cA e1 z1 o1 hAr hNm => ?_
  have hc : cA = z_ac g 0 := Option.some.inj (hNm.symm.trans (cx.2.2.2.2.2.1.1.2 0 _ rfl).2)
  refine k H1 locs ls ?_ ⟨Nat.le_trans hS.1 (by omega), fun x h1 h2 => (o1 x (by rw [← hz]; exact Nat.lt_of_lt_of_le h1 hS.1)).trans (hS.2.1 x h1 h2), hS.2.2⟩ hl
  show va_P _ _ (y_ws _ _ _) H1
  rw [← y_ws_push]
  refine (va_P.kept hW (fun i x hx => o1 x.1 (by rw [← hz]; exact (hW i x hx).lt))).app (fun i x hx => ?_)
  have hz' : i < 1 := (List.getElem?_eq_some_iff.mp hx).1
  rw [show i = 0 by omega] at hx
  cases hx
  show H1[z_ad g N]? = some (vp_cell _ _)
  rw [e1, hc]
  rfl
theorem y_newa_long {g : z_G} {M : z_M} {d mc ms N0 N ce sl pc : Nat} {K : z_K} {L : List (Option Value)} {st : List Value} {sh : z_H} {n : Int32} {k1 N1 ce1 sl1 : Nat} {sh1 : z_H} (cx : y_C g M d mc ms N0 K) (ha : Cond.arrayClass .long ∈ z_TB) (hN : N0 + ce = N) (hn : ¬ n < 0) (hk : n.toNatClampNeg = k1) (hb : k1 * 8 ≤ 536870912) (h1 : N + 1 = N1) (h2 : ce + 1 = ce1) (h3 : sl + k1 = sl1) (h4 : ce1 ≤ mc) (h5 : sl1 ≤ ms) (hsh : z_u sh N (.inl (z_ac g 1, k1, .inr (.inl (fun _ => 0)))) = sh1) (hd : decode M.2.2.1 pc = .ok (.newarray .long, 2)) (k : y_At g M K N1 ce1 sl1 (pc + 2) L (.ref (z_ad g N) :: st) sh1) : y_At g M K N ce sl pc L (.int n :: st) sh := by
  intro H locs ls hW hS hl
  refine y_size cx hN hW hS (fun hz => ?_)
  have q := cx.2.2.2.2.2.2.2.2.2
  subst h1; subst h2; subst h3; subst hsh
  refine va_newaK (atype := .long) cx.1 cx.2.1 (cx.2.2.2.2.1 _ ha) rfl hd rfl hn hk (by show k1 * componentBytes .long ≤ _; have : k1 * componentBytes .long ≤ k1 * 8 := Nat.mul_le_mul_left _ (by decide); omega) (by omega) (by omega) hz fun H1 cA e1 z1 o1 hAr hNm => ?_
  have hc : cA = z_ac g 1 := Option.some.inj (hNm.symm.trans (cx.2.2.2.2.2.1.1.2 1 _ rfl).2)
  refine k H1 locs ls ?_ ⟨Nat.le_trans hS.1 (by omega), fun x h1 h2 => (o1 x (by rw [← hz]; exact Nat.lt_of_lt_of_le h1 hS.1)).trans (hS.2.1 x h1 h2), hS.2.2⟩ hl
  show va_P _ _ (y_ws _ _ _) H1
  rw [← y_ws_push]
  refine (va_P.kept hW (fun i x hx => o1 x.1 (by rw [← hz]; exact (hW i x hx).lt))).app (fun i x hx => ?_)
  have hz' : i < 1 := (List.getElem?_eq_some_iff.mp hx).1
  rw [show i = 0 by omega] at hx
  cases hx
  show H1[z_ad g N]? = some (vp_cell _ _)
  rw [e1, hc]
  rfl
theorem y_newa_boolean {g : z_G} {M : z_M} {d mc ms N0 N ce sl pc : Nat} {K : z_K} {L : List (Option Value)} {st : List Value} {sh : z_H} {n : Int32} {k1 N1 ce1 sl1 : Nat} {sh1 : z_H} (cx : y_C g M d mc ms N0 K) (ha : Cond.arrayClass .boolean ∈ z_TB) (hN : N0 + ce = N) (hn : ¬ n < 0) (hk : n.toNatClampNeg = k1) (hb : k1 * 8 ≤ 536870912) (h1 : N + 1 = N1) (h2 : ce + 1 = ce1) (h3 : sl + k1 = sl1) (h4 : ce1 ≤ mc) (h5 : sl1 ≤ ms) (hsh : z_u sh N (.inl (z_ac g 2, k1, .inl (fun _ => 0))) = sh1) (hd : decode M.2.2.1 pc = .ok (.newarray .boolean, 2)) (k : y_At g M K N1 ce1 sl1 (pc + 2) L (.ref (z_ad g N) :: st) sh1) : y_At g M K N ce sl pc L (.int n :: st) sh := by
  intro H locs ls hW hS hl
  refine y_size cx hN hW hS (fun hz => ?_)
  have q := cx.2.2.2.2.2.2.2.2.2
  subst h1; subst h2; subst h3; subst hsh
  refine va_newaK (atype := .boolean) cx.1 cx.2.1 (cx.2.2.2.2.1 _ ha) rfl hd rfl hn hk (by show k1 * componentBytes .boolean ≤ _; have : k1 * componentBytes .boolean ≤ k1 * 8 := Nat.mul_le_mul_left _ (by decide); omega) (by omega) (by omega) hz fun H1 cA e1 z1 o1 hAr hNm => ?_
  have hc : cA = z_ac g 2 := Option.some.inj (hNm.symm.trans (cx.2.2.2.2.2.1.1.2 2 _ rfl).2)
  refine k H1 locs ls ?_ ⟨Nat.le_trans hS.1 (by omega), fun x h1 h2 => (o1 x (by rw [← hz]; exact Nat.lt_of_lt_of_le h1 hS.1)).trans (hS.2.1 x h1 h2), hS.2.2⟩ hl
  show va_P _ _ (y_ws _ _ _) H1
  rw [← y_ws_push]
  refine (va_P.kept hW (fun i x hx => o1 x.1 (by rw [← hz]; exact (hW i x hx).lt))).app (fun i x hx => ?_)
  have hz' : i < 1 := (List.getElem?_eq_some_iff.mp hx).1
  rw [show i = 0 by omega] at hx
  cases hx
  show H1[z_ad g N]? = some (vp_cell _ _)
  rw [e1, hc]
  rfl
theorem y_anew_F {g : z_G} {M : z_M} {d mc ms N0 N ce sl pc : Nat} {K : z_K} {L : List (Option Value)} {st : List Value} {sh : z_H} {n : Int32} {idx k1 N1 ce1 sl1 : Nat} {sh1 : z_H} (cx : y_C g M d mc ms N0 K) (ha : Cond.classLink M.1 idx "HasShut$Fraction" ∈ z_TB) (hN : N0 + ce = N) (hn : ¬ n < 0) (hk : n.toNatClampNeg = k1) (hb : k1 * 4 ≤ 536870912) (h1 : N + 1 = N1) (h2 : ce + 1 = ce1) (h3 : sl + k1 = sl1) (h4 : ce1 ≤ mc) (h5 : sl1 ≤ ms) (hsh : z_u sh N (.inl (z_ac g 3, k1, .inr (.inr (.inr (.inr (fun _ => none)))))) = sh1) (hd : decode M.2.2.1 pc = .ok (.anewarray idx, 3)) (k : y_At g M K N1 ce1 sl1 (pc + 3) L (.ref (z_ad g N) :: st) sh1) : y_At g M K N ce sl pc L (.int n :: st) sh := by
  intro H locs ls hW hS hl
  refine y_size cx hN hW hS (fun hz => ?_)
  have q := cx.2.2.2.2.2.2.2.2.2
  subst h1; subst h2; subst h3; subst hsh; subst hk
  refine W.anew cx.1 cx.2.1 cx.2.2.2.1 (cx.2.2.2.2.1 _ ha) (va_AO.use cx.2.2.2.2.2.1.2.2.2.1) rfl hd rfl hn hb (by omega) (by omega) fun cA kA comp f1 f2 f3 f4 => ?_
  have hc : cA = z_ac g 3 := by
    obtain ⟨kA', comp', -, -, -, h4⟩ := (cx.2.2.2.2.2.1.1.2 3 _ rfl).2
    exact Option.some.inj (f1.symm.trans h4)
  generalize hH1 : H.push ({ cls := cA, slots := Array.replicate n.toNatClampNeg .null, vm := .none } : Cell) = H1
  have z1 : H1.size = H.size + 1 := by rw [← hH1, Array.size_push]
  have e1 : H1[H.size]? = some (arrV cA n.toNatClampNeg (fun _ => .null)) := by rw [← hH1, Array.getElem?_push_size, ← arrV_new]
  have o1 : ∀ q : Nat, q < H.size → H1[q]? = H[q]? := fun q hq => by rw [← hH1, Array.getElem?_push, if_neg (Nat.ne_of_lt hq)]
  rw [hz]
  refine k H1 locs ls ?_ ⟨Nat.le_trans hS.1 (by omega), fun x h1 h2 => (o1 x (Nat.lt_of_lt_of_le h1 hS.1)).trans (hS.2.1 x h1 h2), hS.2.2⟩ hl
  show va_P _ _ (y_ws _ _ _) H1
  rw [← y_ws_push]
  refine (va_P.kept hW (fun i x hx => o1 x.1 (hW i x hx).lt)).app (fun i x hx => ?_)
  have hz' : i < 1 := (List.getElem?_eq_some_iff.mp hx).1
  rw [show i = 0 by omega] at hx
  cases hx
  show H1[z_ad g N]? = some (vp_cell _ _)
  rw [vp_cell_q, ← hz, e1, hc]
  rfl
theorem y_anew_S {g : z_G} {M : z_M} {d mc ms N0 N ce sl pc : Nat} {K : z_K} {L : List (Option Value)} {st : List Value} {sh : z_H} {n : Int32} {idx k1 N1 ce1 sl1 : Nat} {sh1 : z_H} (cx : y_C g M d mc ms N0 K) (ha : Cond.classLink M.1 idx "HasShut$Shelf" ∈ z_TB) (hN : N0 + ce = N) (hn : ¬ n < 0) (hk : n.toNatClampNeg = k1) (hb : k1 * 4 ≤ 536870912) (h1 : N + 1 = N1) (h2 : ce + 1 = ce1) (h3 : sl + k1 = sl1) (h4 : ce1 ≤ mc) (h5 : sl1 ≤ ms) (hsh : z_u sh N (.inl (z_ac g 4, k1, .inr (.inr (.inr (.inr (fun _ => none)))))) = sh1) (hd : decode M.2.2.1 pc = .ok (.anewarray idx, 3)) (k : y_At g M K N1 ce1 sl1 (pc + 3) L (.ref (z_ad g N) :: st) sh1) : y_At g M K N ce sl pc L (.int n :: st) sh := by
  intro H locs ls hW hS hl
  refine y_size cx hN hW hS (fun hz => ?_)
  have q := cx.2.2.2.2.2.2.2.2.2
  subst h1; subst h2; subst h3; subst hsh; subst hk
  refine W.anew cx.1 cx.2.1 cx.2.2.2.1 (cx.2.2.2.2.1 _ ha) (va_AO.use cx.2.2.2.2.2.1.2.2.2.2) rfl hd rfl hn hb (by omega) (by omega) fun cA kA comp f1 f2 f3 f4 => ?_
  have hc : cA = z_ac g 4 := by
    obtain ⟨kA', comp', -, -, -, h4⟩ := (cx.2.2.2.2.2.1.1.2 4 _ rfl).2
    exact Option.some.inj (f1.symm.trans h4)
  generalize hH1 : H.push ({ cls := cA, slots := Array.replicate n.toNatClampNeg .null, vm := .none } : Cell) = H1
  have z1 : H1.size = H.size + 1 := by rw [← hH1, Array.size_push]
  have e1 : H1[H.size]? = some (arrV cA n.toNatClampNeg (fun _ => .null)) := by rw [← hH1, Array.getElem?_push_size, ← arrV_new]
  have o1 : ∀ q : Nat, q < H.size → H1[q]? = H[q]? := fun q hq => by rw [← hH1, Array.getElem?_push, if_neg (Nat.ne_of_lt hq)]
  rw [hz]
  refine k H1 locs ls ?_ ⟨Nat.le_trans hS.1 (by omega), fun x h1 h2 => (o1 x (Nat.lt_of_lt_of_le h1 hS.1)).trans (hS.2.1 x h1 h2), hS.2.2⟩ hl
  show va_P _ _ (y_ws _ _ _) H1
  rw [← y_ws_push]
  refine (va_P.kept hW (fun i x hx => o1 x.1 (hW i x hx).lt)).app (fun i x hx => ?_)
  have hz' : i < 1 := (List.getElem?_eq_some_iff.mp hx).1
  rw [show i = 0 by omega] at hx
  cases hx
  show H1[z_ad g N]? = some (vp_cell _ _)
  rw [vp_cell_q, ← hz, e1, hc]
  rfl
theorem y_new {g : z_G} {M : z_M} {d mc ms N0 N ce sl pc : Nat} {K : z_K} {L : List (Option Value)} {st : List Value} {sh : z_H} {ci NF idx N1 ce1 sl1 : Nat} {C : String} {T : u_T} {ty : Nat → FieldType} {fs : List Value} {sh1 : z_H} (cx : y_C g M d mc ms N0 K) (hcl : z_cl ci C T NF ty) (hlk : Cond.classLink M.1 idx C ∈ z_TB) (hins : Cond.instantiable C NF ∈ z_TB) (hini : Cond.initialized C ∈ z_TB) (hfs : ∀ j, j < NF → defaultValue (ty j) = vp_V fs j) (hN : N0 + ce = N) (h1 : N + 1 = N1) (h2 : ce + 1 = ce1) (h3 : sl + NF = sl1) (h4 : ce1 ≤ mc) (h5 : sl1 ≤ ms) (hsh : z_u sh N (.inr (ci, fs)) = sh1) (hd : decode M.2.2.1 pc = .ok (.new idx, 3)) (k : y_At g M K N1 ce1 sl1 (pc + 3) L (.ref (z_ad g N) :: st) sh1) : y_At g M K N ce sl pc L st sh := by
  intro H locs ls hW hS hl
  refine y_size cx hN hW hS (fun hz => ?_)
  have q := cx.2.2.2.2.2.2.2.2.2
  have hKn := cx.2.2.2.2.2.1.1.1 ci _ hcl.1
  subst h1; subst h2; subst h3; subst hsh
  refine W.newcK cx.1 cx.2.1 cx.2.2.2.1 (cx.2.2.2.2.1 _ hlk) (cx.2.2.2.2.1 _ hins) (cx.2.2.2.2.1 _ hini) rfl hd (by omega) (by omega) hKn.2.1 hz fun H1 kC hkC e1 z1 o1 => ?_
  refine k H1 locs ls ?_ ⟨Nat.le_trans hS.1 (by omega), fun x h1 h2 => (o1 x (by rw [← hz]; exact Nat.lt_of_lt_of_le h1 hS.1)).trans (hS.2.1 x h1 h2), hS.2.2⟩ hl
  show va_P _ _ (y_ws _ _ _) H1
  rw [← y_ws_push]
  refine (va_P.kept hW (fun i x hx => o1 x.1 (by rw [← hz]; exact (hW i x hx).lt))).app (fun i x hx => ?_)
  have hz' : i < 1 := (List.getElem?_eq_some_iff.mp hx).1
  rw [show i = 0 by omega] at hx
  cases hx
  exact ⟨_, hcl.1, (u_born ty cx.2.2.2.2.1 hcl.2.1 hKn hkC e1 hcl.2.2.1).to hfs⟩
theorem y_iast {g : z_G} {M : z_M} {d mc ms N0 N ce sl pc : Nat} {K : z_K} {L : List (Option Value)} {st : List Value} {sh : z_H} {q n m : Nat} {f f1 : Nat → Int32} {i x : Int32} {sh1 : z_H} (cx : y_C g M d mc ms N0 K) (hq : q < N) (hs : sh q = .inl (z_ac g 0, n, .inl f)) (hin : vp_in i n) (hm : i.toNatClampNeg = m) (hf : upd f m x = f1) (hsh : z_u sh q (.inl (z_ac g 0, n, .inl f1)) = sh1) (hd : decode M.2.2.1 pc = .ok (.iastore, 1)) (k : y_At g M K N ce sl (pc + 1) L st sh1) : y_At g M K N ce sl pc L (.int x :: .int i :: .ref (z_ad g q) :: st) sh := by
  intro H locs ls hW hS hl
  refine va_iast cx.1 cx.2.1 cx.2.2.2.2.2.1.1 hW (y_dis cx.2.2.2.2.2.1 cx.2.2.2.2.2.2.1) hS q 0 (by rw [y_ws_get hq, hs]) rfl hin hd (fun H1 locs1 hP _ hS1 => ?_)
  rw [hm, hf, y_ws_set, hsh] at hP
  exact k H1 locs1 ls hP hS1 hl
theorem y_aast_F {g : z_G} {M : z_M} {d mc ms N0 N ce sl pc : Nat} {K : z_K} {L : List (Option Value)} {st : List Value} {sh : z_H} {q n m v : Nat} {f f1 : Nat → Option Nat} {i : Int32} {vs : List Value} {sh1 : z_H} (cx : y_C g M d mc ms N0 K) (hq : q < N) (hs : sh q = .inl (z_ac g 3, n, .inr (.inr (.inr (.inr f))))) (hv : v < N) (hvs : sh v = .inr (4, vs)) (hin : vp_in i n) (hm : i.toNatClampNeg = m) (hf : va_up f m (some (z_ad g v)) = f1) (hsh : z_u sh q (.inl (z_ac g 3, n, .inr (.inr (.inr (.inr f1))))) = sh1) (hd : decode M.2.2.1 pc = .ok (.aastore, 1)) (k : y_At g M K N ce sl (pc + 1) L st sh1) : y_At g M K N ce sl pc L (.ref (z_ad g v) :: .int i :: .ref (z_ad g q) :: st) sh := by
  intro H locs ls hW hS hl
  refine va_astq cx.1 cx.2.1 cx.2.2.2.2.2.1.1 hW (y_dis cx.2.2.2.2.2.1 cx.2.2.2.2.2.2.1) hS q 3 v 4 (by rw [y_ws_get hq, hs]) (r := (RX4, TX4, 2)) rfl (by rw [y_ws_get hv, hvs]) rfl hin hd (fun H1 locs1 hP _ hS1 => ?_)
  rw [hm, hf, y_ws_set, hsh] at hP
  exact k H1 locs1 ls hP hS1 hl
theorem y_aast_S {g : z_G} {M : z_M} {d mc ms N0 N ce sl pc : Nat} {K : z_K} {L : List (Option Value)} {st : List Value} {sh : z_H} {q n m v : Nat} {f f1 : Nat → Option Nat} {i : Int32} {vs : List Value} {sh1 : z_H} (cx : y_C g M d mc ms N0 K) (hq : q < N) (hs : sh q = .inl (z_ac g 4, n, .inr (.inr (.inr (.inr f))))) (hv : v < N) (hvs : sh v = .inr (8, vs)) (hin : vp_in i n) (hm : i.toNatClampNeg = m) (hf : va_up f m (some (z_ad g v)) = f1) (hsh : z_u sh q (.inl (z_ac g 4, n, .inr (.inr (.inr (.inr f1))))) = sh1) (hd : decode M.2.2.1 pc = .ok (.aastore, 1)) (k : y_At g M K N ce sl (pc + 1) L st sh1) : y_At g M K N ce sl pc L (.ref (z_ad g v) :: .int i :: .ref (z_ad g q) :: st) sh := by
  intro H locs ls hW hS hl
  refine va_astq cx.1 cx.2.1 cx.2.2.2.2.2.1.1 hW (y_dis cx.2.2.2.2.2.1 cx.2.2.2.2.2.2.1) hS q 4 v 8 (by rw [y_ws_get hq, hs]) (r := (RX8, TX8, 5)) rfl (by rw [y_ws_get hv, hvs]) rfl hin hd (fun H1 locs1 hP _ hS1 => ?_)
  rw [hm, hf, y_ws_set, hsh] at hP
  exact k H1 locs1 ls hP hS1 hl
theorem y_objinit {g : z_G} {M : z_M} {d mc ms N0 N ce sl pc : Nat} {K : z_K} {L : List (Option Value)} {st : List Value} {sh : z_H} {idx a : Nat} (cx : y_C g M d mc ms N0 K) (hl0 : Cond.methodLink M.1 idx Lib.objectInit ∈ z_TB) (hi0 : Cond.instanceMethod Lib.objectInit ∈ z_TB) (hc0 : Cond.code Lib.objectInit ⟨#[0xb1]⟩ 1 none ∈ z_TB) (h0 : 1 ≤ d) (hr : (st.map fun v => v.category).sum ≤ 8) (hd : decode M.2.2.1 pc = .ok (.invokespecial idx, 3)) (k : y_At g M K N ce sl (pc + 3) L st sh) : y_At g M K N ce sl pc L (.ref a :: st) sh := by
  intro H locs ls hW hS hl
  have q := cx.2.2.2.2.2.2.2
  exact W.objInit cx.1 cx.2.1 cx.2.2.2.1 (cx.2.2.2.2.1 _ hl0) (cx.2.2.2.2.1 _ hi0) (cx.2.2.2.2.1 _ hc0) rfl (by rw [cx.2.2.1]; exact hl.1) rfl hd (by omega) (by show 2 * 0 + _ + 12 ≤ _; omega) (k H locs ls hW hS hl)
theorem y_ret {g : z_G} {M : z_M} {d mc ms N0 N pc : Nat} {K : z_K} {L : List (Option Value)} {sh : z_H} (cx : y_C g M d mc ms N0 K) (ce' : y_E' g M mc ms N sh K) (hr : M.2.2.2.2 = none) (hd : decode M.2.2.1 pc = .ok (.return_, 1)) : y_At g M K N mc ms pc L [] sh := by
  intro H locs ls hW hS hl
  rw [ce'.2.2.2.1]
  exact W.vret cx.1 cx.2.1 (ce'.1.trans hr) (fun t ht hw => ⟨⟨rfl, by rw [ht]; exact hW⟩, by rw [← ce'.2.2.2.2]; exact hS.F ht⟩) hS.2.2 hd ce'.2.1
theorem y_Pc_blind {g : z_G} {N : Nat} {av : List Value} {sh : z_H} : FrameBlind (y_Pc g N av sh) := by
  intro a U f mk q
  obtain ⟨q0, q1, q2, q3⟩ := q
  exact ⟨q0, y_E.same (s := U) (U := U.calling f mk a) rfl q1, q2, q3⟩
theorem y_back {g : z_G} {M : z_M} {d mc ms N0 N1 ce sl mc' ms' pc : Nat} {K : z_K} {L : List (Option Value)} {st0 rest : List Value} {sh1 : z_H} {a : Array Value} {H : Heap} {locs : List Loc} {ls : Array Slot} (cx : y_C g M d mc ms N0 K)
    (hr : va_Run (z_p K) g.1 (z_e K) (z_R K) (z_s K) (z_m K) (z_a K) (z_b K) (z_me K) (z_c K) H locs ce sl mc' ms' (F0 (z_m K) pc ls st0) rest (y_Qm g N1 sh1 a) (y_A g)) (hS : va_S (z_A K) (z_s K).heap H locs) (hl : z_l ls M.2.2.2.1 L)
    (k : y_At g M K N1 (ce + mc') (sl + ms') (pc + 3) L rest sh1) : W (z_p K) g.1 (z_e K) (z_R K) (z_s K) (z_m K) (z_a K) (z_b K) (z_me K) (z_c K) H locs ce sl (z_Q K) (F0 (z_m K) pc ls st0) := by
  intro T hT X
  have had := cx.2.2.2.2.2.1.2.1
  have hcells : ∀ q, y_A g q → z_A K q := fun q h => by
    have h : z_ad g 0 ≤ q := h
    have h2 := cx.2.2.2.2.2.2.1 (q - z_ad g 0)
    rw [had (q - z_ad g 0)] at h2
    rw [show q = z_ad g 0 + (q - z_ad g 0) by omega]
    exact h2
  obtain ⟨v, st₀, t, T', Ls, h0, X', hL, e1, e2, ⟨⟨hv, hb⟩, hz, hk⟩, st⟩ := hr T hT X
  cases hv
  rw [h0] at hz hk
  obtain ⟨t2, a1, b1⟩ := k T'.heap (locs ++ Ls) ls (by rw [e1]; exact hb) ⟨Nat.le_trans hS.1 (by rw [e1]; exact hz), fun q h1 h2 => by rw [e1, hk q (Nat.lt_of_lt_of_le h1 hS.1) (fun z => h2 (hcells q z))]; exact hS.2.1 q h1 h2, fun q hq => by
      rcases List.mem_append.mp hq with h | h
      · exact hS.2.2 q h
      · exact hcells _ (hL q h)⟩ hl T' rfl X'
  exact ⟨t2, st t2 a1, b1⟩
/-- a constructor that can be called -/
def y_mo (M : z_M) : Prop := Cond.code M.2.1 M.2.2.1 M.2.2.2.1 M.2.2.2.2 ∈ z_TB ∧ Cond.initialized M.2.1.cls ∈ z_TB ∧ M.2.1.cls = M.1 ∧ (M.2.1.cls ≠ "java/lang/invoke/MethodHandle" ∧ M.2.1.cls ≠ "java/lang/invoke/VarHandle") ∧ (parseMethodDescriptor M.2.1.desc).map (fun d => d.parameters.length) = some 0 ∧ M.2.2.2.1 ≤ 31 ∧ Cond.instanceMethod M.2.1 ∈ z_TB ∧ M.2.1.name = "<init>" ∧ M.2.2.2.2 = none
theorem y_words {g : z_G} {M M' : z_M} {d mc ms N0 : Nat} {K : z_K} (cx : y_C g M d mc ms N0 K) (hm : y_mo M') : ∀ w ∈ (.code M'.2.1 M'.2.2.1 M'.2.2.2.1 M'.2.2.2.2 :: z_TB : List Cond), ∀ (a' : Array Value) (U : State), (z_s K).WarmedH U.vm → w.before a' U = true := by
  have hp := pay_in cx.2.2.2.2.1 z_TB_good
  intro w hw
  rcases List.mem_cons.mp hw with rfl | hw
  · exact hp _ hm.1
  · exact hp _ hw
theorem y_call {g : z_G} {M : z_M} {d mc ms N0 N ce sl pc : Nat} {K : z_K} {L : List (Option Value)} {st : List Value} {sh : z_H} {M' : z_M} {d' idx b mc' ms' N1 ce1 sl1 : Nat} {sh1 : z_H} (cx : y_C g M d mc ms N0 K) (hm : y_mo M') (hl0 : Cond.methodLink M.1 idx M'.2.1 ∈ z_TB ∨ ∃ h, Cond.methodLinkNest M.1 idx M'.2.1 h ∈ y_NB) (hdd : d' + 1 ≤ d) (hr : (st.map fun v => v.category).sum ≤ 8) (hN : N0 + ce = N) (h2 : ce + mc' = ce1) (h3 : sl + ms' = sl1) (h4 : ce1 ≤ mc) (h5 : sl1 ≤ ms) (hd : decode M.2.2.1 pc = .ok (.invokespecial idx, 3))
    (hc : y_Ct g M' d' mc' ms' N N1 [.ref (z_ad g b)] sh sh1) (k : y_At g M K N1 ce1 sl1 (pc + 3) L st sh1) : y_At g M K N ce sl pc L (.ref (z_ad g b) :: st) sh := by
  intro H locs ls hW hS hl
  refine y_size cx hN hW hS (fun hz => ?_)
  obtain ⟨m1, m2, m3, m4, m5, m6, m7, m8, m9⟩ := hm
  have q := cx.2.2.2.2.2.2.2
  have hT := cx.2.2.2.2.1
  subst h2; subst h3
  have hws := y_words cx ⟨m1, m2, m3, m4, m5, m6, m7, m8, m9⟩
  have hpar : ∀ sig, parseMethodDescriptor M'.2.1.desc = some sig → 0 = sig.parameters.length := fun sig h => by
    rw [h] at m5
    exact (Option.some.inj m5).symm
  have hpre : ∀ U : State, U.heap = H → (z_s K).WarmedH U.vm → y_Pc g N [.ref (z_ad g b)] sh (Value.ref (z_ad g b) :: []).toArray U := fun U hU hw => ⟨rfl, cx.2.2.2.2.2.1.warm hw, by rw [hU]; exact hW, by rw [hU]; exact hz⟩
  have hrm : (y_rm d' mc' ms').frames + 1 ≤ (z_R K).frames := by show d' + 1 ≤ _; omega
  have hrl : 8 + (M'.2.2.2.1 + 11) + (y_rm d' mc' ms').locals ≤ (z_R K).locals := by show 8 + (_ + 11) + 50 * d' ≤ _; omega
  rcases hl0 with hl0 | ⟨h, hl0⟩
  · exact y_back cx (va_runI (n := 0) (As := []) (z_p K |> fun _ => (⟨cx.1, cx.2.1, cx.2.2.1, cx.2.2.2.1, hT⟩ : CallFix (z_p K) (z_m K) (z_c K) M.2.2.1 M.2.2.2.1 (z_s K) (z_a K) z_TB M.1)) hc ⟨⟨rfl, rfl, hrm, hrl, hws, by rw [m9]; exact List.mem_cons_self, by rw [← m9]; exact hT _ m1, hT _ m2, m4, hpar, hT _ hl0⟩, m8, hT _ m7⟩ ⟨y_Pc_blind, hpre⟩ rfl rfl hl.1 rfl (lv_room hr) hd ⟨by omega, by omega⟩) hS hl k
  · have hnw : va_Nw (Cond.methodLinkNest M.1 idx M'.2.1 h) (z_s K) := cx.2.2.2.2.2.1.2.2.1 _ hl0
    exact y_back cx (va_runIN (n := 0) (As := []) (⟨cx.1, cx.2.1, cx.2.2.1, cx.2.2.2.1, hT⟩ : CallFix (z_p K) (z_m K) (z_c K) M.2.2.1 M.2.2.2.1 (z_s K) (z_a K) z_TB M.1) hc ⟨⟨⟨rfl, rfl, hrm, hrl, hws, by rw [m9]; exact List.mem_cons_self⟩, by rw [← m9]; exact hT _ m1, hT _ m2, m4, hpar, va_Nw.use rfl hnw⟩, m8, hT _ m7⟩ ⟨y_Pc_blind, hpre⟩ rfl rfl hl.1 rfl (lv_room hr) hd ⟨by omega, by omega⟩) hS hl k
