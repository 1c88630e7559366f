def f_L_law_1628 (n : Nat) (xs : Nat → Int32) (nx : Nat) (k18 : Int32 → z_Stt → Option (Bool × z_Stt)) (x3 : Int32) (S : z_Stt) : Option (Bool × z_Stt) :=
  k18 (x3 + 6) S
set_option maxHeartbeats 4000000 in
set_option maxRecDepth 100000 in
theorem t_L_law_1628 {g : z_G} {K : z_K} (n : Nat) (xs : Nat → Int32) (nx : Nat) {S' : z_Stt} (cx : z_C g M_L_law 1000 K) {b : Nat} (lx : z_LK K b nx xs) (k18 : Int32 → z_Stt → Option (Bool × z_Stt)) (hk18 : ∀ (x3 : Int32) (S : z_Stt), k18 x3 S = some (true, S') → z_At g M_L_law K 18 [some (.ref b), some (.ref (z_ad g 0)), some (.ref (z_ad g 48)), some (.int x3)] [] (hp g S)) (x3 : Int32) (S : z_Stt) (h : f_L_law_1628 n xs nx k18 x3 S = some (true, S')) : z_At g M_L_law K 1628 [some (.ref b), some (.ref (z_ad g 0)), some (.ref (z_ad g 48)), some (.int x3)] [] (hp g S) := by
  unfold f_L_law_1628 at h
  refine z_iinc (c := 6) (L' := [some (.ref b), some (.ref (z_ad g 0)), some (.ref (z_ad g 48)), some (.int (x3 + 6))]) cx rfl (by decide +kernel) (by decide) rfl dL_law_1628 ?_
  refine z_goto (tgt := 18) cx (by decide) dL_law_1631 ?_
  exact q_weak (z_wk_s (z_wk_s (z_wk_s (z_wk_s (z_wk_0))))) (hk18 (x3 + 6) S h)
def f_L_law_220 (n : Nat) (xs : Nat → Int32) (nx : Nat) (k18 : Int32 → z_Stt → Option (Bool × z_Stt)) (x3 : Int32) (S : z_Stt) : Option (Bool × z_Stt) :=
  if ¬ (x3 + 1 < 0 ∨ nx ≤ (x3 + 1).toNatClampNeg) then
    if ¬ (x3 + 2 < 0 ∨ nx ≤ (x3 + 2).toNatClampNeg) then
      g_bd (f_X10_thing (xs (x3 + 1).toNatClampNeg) (xs (x3 + 2).toNatClampNeg) S) fun v3 S4 =>
      if ¬ (x3 + 1 < 0 ∨ nx ≤ (x3 + 1).toNatClampNeg) then
        if ¬ (x3 + 2 < 0 ∨ nx ≤ (x3 + 2).toNatClampNeg) then
          g_bd (f_X11_thing (xs (x3 + 1).toNatClampNeg) (xs (x3 + 2).toNatClampNeg) S4) fun v8 S9 =>
          if v3 = v8 then
            f_L_law_1628 n xs nx k18 x3 S9
          else
            some (false, S9)
        else none
      else none
    else none
  else none
set_option maxHeartbeats 4000000 in
set_option maxRecDepth 100000 in
theorem t_L_law_220 {g : z_G} {K : z_K} (n : Nat) (xs : Nat → Int32) (nx : Nat) {S' : z_Stt} (cx : z_C g M_L_law 1000 K) {b : Nat} (lx : z_LK K b nx xs) (k18 : Int32 → z_Stt → Option (Bool × z_Stt)) (hk18 : ∀ (x3 : Int32) (S : z_Stt), k18 x3 S = some (true, S') → z_At g M_L_law K 18 [some (.ref b), some (.ref (z_ad g 0)), some (.ref (z_ad g 48)), some (.int x3)] [] (hp g S)) (x3 : Int32) (S : z_Stt) (h : f_L_law_220 n xs nx k18 x3 S = some (true, S')) : z_At g M_L_law K 220 [some (.ref b), some (.ref (z_ad g 0)), some (.ref (z_ad g 48)), some (.int x3)] [] (hp g S) := by
  unfold f_L_law_220 at h
  refine z_aload_n cx rfl rfl dL_law_220 ?_
  refine z_aload_n cx rfl rfl dL_law_221 ?_
  refine z_iload_n cx rfl rfl dL_law_222 ?_
  refine z_iconst (v := 1) cx (by decide +kernel) dL_law_223 ?_
  refine z_iadd cx dL_law_224 ?_
  obtain ⟨c1, h⟩ := g_if h
  refine z_sld cx lx c1 dL_law_225 ?_
  refine z_aload_n cx rfl rfl dL_law_226 ?_
  refine z_iload_n cx rfl rfl dL_law_227 ?_
  refine z_iconst (v := 2) cx (by decide +kernel) dL_law_228 ?_
  refine z_iadd cx dL_law_229 ?_
  obtain ⟨c2, h⟩ := g_if h
  refine z_sld cx lx c2 dL_law_230 ?_
  obtain ⟨v3, S4, e5, h⟩ := g_bd_ex h
  refine q_cvi (As := [.int (xs (x3 + 1).toNatClampNeg), .int (xs (x3 + 2).toNatClampNeg)]) cx mo_X10_thing mv_X10_thing z_cl10 rfl tb_165 (by decide) rfl (by decide) rfl rfl (Nat.le_of_ble_eq_true rfl) dL_law_231 (c_X10_thing (xs (x3 + 1).toNatClampNeg) (xs (x3 + 2).toNatClampNeg) _ e5) ?_
  refine z_aload_n cx rfl rfl dL_law_234 ?_
  refine z_aload_n cx rfl rfl dL_law_235 ?_
  refine z_iload_n cx rfl rfl dL_law_236 ?_
  refine z_iconst (v := 1) cx (by decide +kernel) dL_law_237 ?_
  refine z_iadd cx dL_law_238 ?_
  obtain ⟨c6, h⟩ := g_if h
  refine z_sld cx lx c6 dL_law_239 ?_
  refine z_aload_n cx rfl rfl dL_law_240 ?_
  refine z_iload_n cx rfl rfl dL_law_241 ?_
  refine z_iconst (v := 2) cx (by decide +kernel) dL_law_242 ?_
  refine z_iadd cx dL_law_243 ?_
  obtain ⟨c7, h⟩ := g_if h
  refine z_sld cx lx c7 dL_law_244 ?_
  obtain ⟨v8, S9, e10, h⟩ := g_bd_ex h
  refine q_cvi (As := [.int (xs (x3 + 1).toNatClampNeg), .int (xs (x3 + 2).toNatClampNeg)]) cx mo_X11_thing mv_X11_thing z_cl11 rfl tb_178 (by decide) rfl (by decide) rfl rfl (Nat.le_of_ble_eq_true rfl) dL_law_245 (c_X11_thing (xs (x3 + 1).toNatClampNeg) (xs (x3 + 2).toNatClampNeg) _ e10) ?_
  refine z_icmp_eq (tgt := 1628) cx (by decide) dL_law_248 (fun c11 => ?_) (fun c11 => ?_)
  · have h := g_t c11 h
    exact q_weak (z_wk_s (z_wk_s (z_wk_s (z_wk_s (z_wk_0))))) (t_L_law_1628 n xs nx cx lx k18 hk18 x3 S9 h)
  · have h := g_f c11 h
    refine z_iconst (v := 0) cx (by decide +kernel) dL_law_251 ?_
    exact absurd (g_some h).1 (by decide)
def f_L_law_253 (n : Nat) (xs : Nat → Int32) (nx : Nat) (k18 : Int32 → z_Stt → Option (Bool × z_Stt)) (x3 : Int32) (S : z_Stt) : Option (Bool × z_Stt) :=
  if ¬ (x3 + 1 < 0 ∨ nx ≤ (x3 + 1).toNatClampNeg) then
    if ¬ (x3 + 2 < 0 ∨ nx ≤ (x3 + 2).toNatClampNeg) then
      if ¬ (x3 + 3 < 0 ∨ nx ≤ (x3 + 3).toNatClampNeg) then
        g_bd (f_X10_things n (xs (x3 + 1).toNatClampNeg) (xs (x3 + 2).toNatClampNeg) (xs (x3 + 3).toNatClampNeg) S) fun v4 S5 =>
        if ¬ (x3 + 1 < 0 ∨ nx ≤ (x3 + 1).toNatClampNeg) then
          if ¬ (x3 + 2 < 0 ∨ nx ≤ (x3 + 2).toNatClampNeg) then
            if ¬ (x3 + 3 < 0 ∨ nx ≤ (x3 + 3).toNatClampNeg) then
              g_bd (f_X11_things n (xs (x3 + 1).toNatClampNeg) (xs (x3 + 2).toNatClampNeg) (xs (x3 + 3).toNatClampNeg) S5) fun v10 S11 =>
              if v4 = v10 then
                f_L_law_1628 n xs nx k18 x3 S11
              else
                some (false, S11)
            else none
          else none
        else none
      else none
    else none
  else none
set_option maxHeartbeats 4000000 in
set_option maxRecDepth 100000 in
theorem t_L_law_253 {g : z_G} {K : z_K} (n : Nat) (xs : Nat → Int32) (nx : Nat) {S' : z_Stt} (cx : z_C g M_L_law 1000 K) {b : Nat} (lx : z_LK K b nx xs) (k18 : Int32 → z_Stt → Option (Bool × z_Stt)) (hk18 : ∀ (x3 : Int32) (S : z_Stt), k18 x3 S = some (true, S') → z_At g M_L_law K 18 [some (.ref b), some (.ref (z_ad g 0)), some (.ref (z_ad g 48)), some (.int x3)] [] (hp g S)) (x3 : Int32) (S : z_Stt) (h : f_L_law_253 n xs nx k18 x3 S = some (true, S')) : z_At g M_L_law K 253 [some (.ref b), some (.ref (z_ad g 0)), some (.ref (z_ad g 48)), some (.int x3)] [] (hp g S) := by
  unfold f_L_law_253 at h
  refine z_aload_n cx rfl rfl dL_law_253 ?_
  refine z_aload_n cx rfl rfl dL_law_254 ?_
  refine z_iload_n cx rfl rfl dL_law_255 ?_
  refine z_iconst (v := 1) cx (by decide +kernel) dL_law_256 ?_
  refine z_iadd cx dL_law_257 ?_
  obtain ⟨c1, h⟩ := g_if h
  refine z_sld cx lx c1 dL_law_258 ?_
  refine z_aload_n cx rfl rfl dL_law_259 ?_
  refine z_iload_n cx rfl rfl dL_law_260 ?_
  refine z_iconst (v := 2) cx (by decide +kernel) dL_law_261 ?_
  refine z_iadd cx dL_law_262 ?_
  obtain ⟨c2, h⟩ := g_if h
  refine z_sld cx lx c2 dL_law_263 ?_
  refine z_aload_n cx rfl rfl dL_law_264 ?_
  refine z_iload_n cx rfl rfl dL_law_265 ?_
  refine z_iconst (v := 3) cx (by decide +kernel) dL_law_266 ?_
  refine z_iadd cx dL_law_267 ?_
  obtain ⟨c3, h⟩ := g_if h
  refine z_sld cx lx c3 dL_law_268 ?_
  obtain ⟨v4, S5, e6, h⟩ := g_bd_ex h
  refine q_cvi (As := [.int (xs (x3 + 1).toNatClampNeg), .int (xs (x3 + 2).toNatClampNeg), .int (xs (x3 + 3).toNatClampNeg)]) cx mo_X10_things mv_X10_things z_cl10 rfl tb_192 (by decide) rfl (by decide) rfl rfl (Nat.le_of_ble_eq_true rfl) dL_law_269 (c_X10_things (xs (x3 + 1).toNatClampNeg) (xs (x3 + 2).toNatClampNeg) (xs (x3 + 3).toNatClampNeg) _ e6) ?_
  refine z_aload_n cx rfl rfl dL_law_272 ?_
  refine z_aload_n cx rfl rfl dL_law_273 ?_
  refine z_iload_n cx rfl rfl dL_law_274 ?_
  refine z_iconst (v := 1) cx (by decide +kernel) dL_law_275 ?_
  refine z_iadd cx dL_law_276 ?_
  obtain ⟨c7, h⟩ := g_if h
  refine z_sld cx lx c7 dL_law_277 ?_
  refine z_aload_n cx rfl rfl dL_law_278 ?_
  refine z_iload_n cx rfl rfl dL_law_279 ?_
  refine z_iconst (v := 2) cx (by decide +kernel) dL_law_280 ?_
  refine z_iadd cx dL_law_281 ?_
  obtain ⟨c8, h⟩ := g_if h
  refine z_sld cx lx c8 dL_law_282 ?_
  refine z_aload_n cx rfl rfl dL_law_283 ?_
  refine z_iload_n cx rfl rfl dL_law_284 ?_
  refine z_iconst (v := 3) cx (by decide +kernel) dL_law_285 ?_
  refine z_iadd cx dL_law_286 ?_
  obtain ⟨c9, h⟩ := g_if h
  refine z_sld cx lx c9 dL_law_287 ?_
  obtain ⟨v10, S11, e12, h⟩ := g_bd_ex h
  refine q_cvi (As := [.int (xs (x3 + 1).toNatClampNeg), .int (xs (x3 + 2).toNatClampNeg), .int (xs (x3 + 3).toNatClampNeg)]) cx mo_X11_things mv_X11_things z_cl11 rfl tb_215 (by decide) rfl (by decide) rfl rfl (Nat.le_of_ble_eq_true rfl) dL_law_288 (c_X11_things (xs (x3 + 1).toNatClampNeg) (xs (x3 + 2).toNatClampNeg) (xs (x3 + 3).toNatClampNeg) _ e12) ?_
  refine z_icmp_eq (tgt := 1628) cx (by decide) dL_law_291 (fun c13 => ?_) (fun c13 => ?_)
  · have h := g_t c13 h
    exact q_weak (z_wk_s (z_wk_s (z_wk_s (z_wk_s (z_wk_0))))) (t_L_law_1628 n xs nx cx lx k18 hk18 x3 S11 h)
  · have h := g_f c13 h
    refine z_iconst (v := 0) cx (by decide +kernel) dL_law_294 ?_
    exact absurd (g_some h).1 (by decide)
def f_L_law_296 (n : Nat) (xs : Nat → Int32) (nx : Nat) (k18 : Int32 → z_Stt → Option (Bool × z_Stt)) (x3 : Int32) (S : z_Stt) : Option (Bool × z_Stt) :=
  if ¬ (x3 + 1 < 0 ∨ nx ≤ (x3 + 1).toNatClampNeg) then
    if ¬ (x3 + 2 < 0 ∨ nx ≤ (x3 + 2).toNatClampNeg) then
      if ¬ (x3 + 3 < 0 ∨ nx ≤ (x3 + 3).toNatClampNeg) then
        g_bd (f_X10_mend n (xs (x3 + 1).toNatClampNeg) (xs (x3 + 2).toNatClampNeg) (xs (x3 + 3).toNatClampNeg) S) fun v4 S5 =>
        if ¬ (x3 + 1 < 0 ∨ nx ≤ (x3 + 1).toNatClampNeg) then
          if ¬ (x3 + 2 < 0 ∨ nx ≤ (x3 + 2).toNatClampNeg) then
            if ¬ (x3 + 3 < 0 ∨ nx ≤ (x3 + 3).toNatClampNeg) then
              g_bd (f_X11_mend n (xs (x3 + 1).toNatClampNeg) (xs (x3 + 2).toNatClampNeg) (xs (x3 + 3).toNatClampNeg) S5) fun v10 S11 =>
              if v4 = v10 then
                f_L_law_1628 n xs nx k18 x3 S11
              else
                some (false, S11)
            else none
          else none
        else none
      else none
    else none
  else none
set_option maxHeartbeats 4000000 in
set_option maxRecDepth 100000 in
theorem t_L_law_296 {g : z_G} {K : z_K} (n : Nat) (xs : Nat → Int32) (nx : Nat) {S' : z_Stt} (cx : z_C g M_L_law 1000 K) {b : Nat} (lx : z_LK K b nx xs) (k18 : Int32 → z_Stt → Option (Bool × z_Stt)) (hk18 : ∀ (x3 : Int32) (S : z_Stt), k18 x3 S = some (true, S') → z_At g M_L_law K 18 [some (.ref b), some (.ref (z_ad g 0)), some (.ref (z_ad g 48)), some (.int x3)] [] (hp g S)) (x3 : Int32) (S : z_Stt) (h : f_L_law_296 n xs nx k18 x3 S = some (true, S')) : z_At g M_L_law K 296 [some (.ref b), some (.ref (z_ad g 0)), some (.ref (z_ad g 48)), some (.int x3)] [] (hp g S) := by
  unfold f_L_law_296 at h
  refine z_aload_n cx rfl rfl dL_law_296 ?_
  refine z_aload_n cx rfl rfl dL_law_297 ?_
  refine z_iload_n cx rfl rfl dL_law_298 ?_
  refine z_iconst (v := 1) cx (by decide +kernel) dL_law_299 ?_
  refine z_iadd cx dL_law_300 ?_
  obtain ⟨c1, h⟩ := g_if h
  refine z_sld cx lx c1 dL_law_301 ?_
  refine z_aload_n cx rfl rfl dL_law_302 ?_
  refine z_iload_n cx rfl rfl dL_law_303 ?_
  refine z_iconst (v := 2) cx (by decide +kernel) dL_law_304 ?_
  refine z_iadd cx dL_law_305 ?_
  obtain ⟨c2, h⟩ := g_if h
  refine z_sld cx lx c2 dL_law_306 ?_
  refine z_aload_n cx rfl rfl dL_law_307 ?_
  refine z_iload_n cx rfl rfl dL_law_308 ?_
  refine z_iconst (v := 3) cx (by decide +kernel) dL_law_309 ?_
  refine z_iadd cx dL_law_310 ?_
  obtain ⟨c3, h⟩ := g_if h
  refine z_sld cx lx c3 dL_law_311 ?_
  obtain ⟨v4, S5, e6, h⟩ := g_bd_ex h
  refine q_cvi (As := [.int (xs (x3 + 1).toNatClampNeg), .int (xs (x3 + 2).toNatClampNeg), .int (xs (x3 + 3).toNatClampNeg)]) cx mo_X10_mend mv_X10_mend z_cl10 rfl tb_226 (by decide) rfl (by decide) rfl rfl (Nat.le_of_ble_eq_true rfl) dL_law_312 (c_X10_mend (xs (x3 + 1).toNatClampNeg) (xs (x3 + 2).toNatClampNeg) (xs (x3 + 3).toNatClampNeg) _ e6) ?_
  refine z_aload_n cx rfl rfl dL_law_315 ?_
  refine z_aload_n cx rfl rfl dL_law_316 ?_
  refine z_iload_n cx rfl rfl dL_law_317 ?_
  refine z_iconst (v := 1) cx (by decide +kernel) dL_law_318 ?_
  refine z_iadd cx dL_law_319 ?_
  obtain ⟨c7, h⟩ := g_if h
  refine z_sld cx lx c7 dL_law_320 ?_
  refine z_aload_n cx rfl rfl dL_law_321 ?_
  refine z_iload_n cx rfl rfl dL_law_322 ?_
  refine z_iconst (v := 2) cx (by decide +kernel) dL_law_323 ?_
  refine z_iadd cx dL_law_324 ?_
  obtain ⟨c8, h⟩ := g_if h
  refine z_sld cx lx c8 dL_law_325 ?_
  refine z_aload_n cx rfl rfl dL_law_326 ?_
  refine z_iload_n cx rfl rfl dL_law_327 ?_
  refine z_iconst (v := 3) cx (by decide +kernel) dL_law_328 ?_
  refine z_iadd cx dL_law_329 ?_
  obtain ⟨c9, h⟩ := g_if h
  refine z_sld cx lx c9 dL_law_330 ?_
  obtain ⟨v10, S11, e12, h⟩ := g_bd_ex h
  refine q_cvi (As := [.int (xs (x3 + 1).toNatClampNeg), .int (xs (x3 + 2).toNatClampNeg), .int (xs (x3 + 3).toNatClampNeg)]) cx mo_X11_mend mv_X11_mend z_cl11 rfl tb_265 (by decide) rfl (by decide) rfl rfl (Nat.le_of_ble_eq_true rfl) dL_law_331 (c_X11_mend (xs (x3 + 1).toNatClampNeg) (xs (x3 + 2).toNatClampNeg) (xs (x3 + 3).toNatClampNeg) _ e12) ?_
  refine z_icmp_eq (tgt := 1628) cx (by decide) dL_law_334 (fun c13 => ?_) (fun c13 => ?_)
  · have h := g_t c13 h
    exact q_weak (z_wk_s (z_wk_s (z_wk_s (z_wk_s (z_wk_0))))) (t_L_law_1628 n xs nx cx lx k18 hk18 x3 S11 h)
  · have h := g_f c13 h
    refine z_iconst (v := 0) cx (by decide +kernel) dL_law_337 ?_
    exact absurd (g_some h).1 (by decide)
def f_L_law_339 (n : Nat) (xs : Nat → Int32) (nx : Nat) (k18 : Int32 → z_Stt → Option (Bool × z_Stt)) (x3 : Int32) (S : z_Stt) : Option (Bool × z_Stt) :=
  if ¬ (x3 + 1 < 0 ∨ nx ≤ (x3 + 1).toNatClampNeg) then
    if ¬ (x3 + 2 < 0 ∨ nx ≤ (x3 + 2).toNatClampNeg) then
      g_bd (f_X10_of (xs (x3 + 1).toNatClampNeg) (xs (x3 + 2).toNatClampNeg) S) fun v3 S4 =>
      if ¬ (x3 + 1 < 0 ∨ nx ≤ (x3 + 1).toNatClampNeg) then
        if ¬ (x3 + 2 < 0 ∨ nx ≤ (x3 + 2).toNatClampNeg) then
          g_bd (f_X11_of (xs (x3 + 1).toNatClampNeg) (xs (x3 + 2).toNatClampNeg) S4) fun v8 S9 =>
          if v3 = v8 then
            f_L_law_1628 n xs nx k18 x3 S9
          else
            some (false, S9)
        else none
      else none
    else none
  else none
set_option maxHeartbeats 4000000 in
set_option maxRecDepth 100000 in
theorem t_L_law_339 {g : z_G} {K : z_K} (n : Nat) (xs : Nat → Int32) (nx : Nat) {S' : z_Stt} (cx : z_C g M_L_law 1000 K) {b : Nat} (lx : z_LK K b nx xs) (k18 : Int32 → z_Stt → Option (Bool × z_Stt)) (hk18 : ∀ (x3 : Int32) (S : z_Stt), k18 x3 S = some (true, S') → z_At g M_L_law K 18 [some (.ref b), some (.ref (z_ad g 0)), some (.ref (z_ad g 48)), some (.int x3)] [] (hp g S)) (x3 : Int32) (S : z_Stt) (h : f_L_law_339 n xs nx k18 x3 S = some (true, S')) : z_At g M_L_law K 339 [some (.ref b), some (.ref (z_ad g 0)), some (.ref (z_ad g 48)), some (.int x3)] [] (hp g S) := by
  unfold f_L_law_339 at h
  refine z_aload_n cx rfl rfl dL_law_339 ?_
  refine z_aload_n cx rfl rfl dL_law_340 ?_
  refine z_iload_n cx rfl rfl dL_law_341 ?_
  refine z_iconst (v := 1) cx (by decide +kernel) dL_law_342 ?_
  refine z_iadd cx dL_law_343 ?_
  obtain ⟨c1, h⟩ := g_if h
  refine z_sld cx lx c1 dL_law_344 ?_
  refine z_aload_n cx rfl rfl dL_law_345 ?_
  refine z_iload_n cx rfl rfl dL_law_346 ?_
  refine z_iconst (v := 2) cx (by decide +kernel) dL_law_347 ?_
  refine z_iadd cx dL_law_348 ?_
  obtain ⟨c2, h⟩ := g_if h
  refine z_sld cx lx c2 dL_law_349 ?_
  obtain ⟨v3, S4, e5, h⟩ := g_bd_ex h
  refine q_cvi (As := [.int (xs (x3 + 1).toNatClampNeg), .int (xs (x3 + 2).toNatClampNeg)]) cx mo_X10_of mv_X10_of z_cl10 rfl tb_296 (by decide) rfl (by decide) rfl rfl (Nat.le_of_ble_eq_true rfl) dL_law_350 (c_X10_of (xs (x3 + 1).toNatClampNeg) (xs (x3 + 2).toNatClampNeg) _ e5) ?_
  refine z_aload_n cx rfl rfl dL_law_353 ?_
  refine z_aload_n cx rfl rfl dL_law_354 ?_
  refine z_iload_n cx rfl rfl dL_law_355 ?_
  refine z_iconst (v := 1) cx (by decide +kernel) dL_law_356 ?_
  refine z_iadd cx dL_law_357 ?_
  obtain ⟨c6, h⟩ := g_if h
  refine z_sld cx lx c6 dL_law_358 ?_
  refine z_aload_n cx rfl rfl dL_law_359 ?_
  refine z_iload_n cx rfl rfl dL_law_360 ?_
  refine z_iconst (v := 2) cx (by decide +kernel) dL_law_361 ?_
  refine z_iadd cx dL_law_362 ?_
  obtain ⟨c7, h⟩ := g_if h
  refine z_sld cx lx c7 dL_law_363 ?_
  obtain ⟨v8, S9, e10, h⟩ := g_bd_ex h
  refine q_cvi (As := [.int (xs (x3 + 1).toNatClampNeg), .int (xs (x3 + 2).toNatClampNeg)]) cx mo_X11_of mv_X11_of z_cl11 rfl tb_307 (by decide) rfl (by decide) rfl rfl (Nat.le_of_ble_eq_true rfl) dL_law_364 (c_X11_of (xs (x3 + 1).toNatClampNeg) (xs (x3 + 2).toNatClampNeg) _ e10) ?_
  refine z_icmp_eq (tgt := 1628) cx (by decide) dL_law_367 (fun c11 => ?_) (fun c11 => ?_)
  · have h := g_t c11 h
    exact q_weak (z_wk_s (z_wk_s (z_wk_s (z_wk_s (z_wk_0))))) (t_L_law_1628 n xs nx cx lx k18 hk18 x3 S9 h)
  · have h := g_f c11 h
    refine z_iconst (v := 0) cx (by decide +kernel) dL_law_370 ?_
    exact absurd (g_some h).1 (by decide)
def f_L_law_372 (n : Nat) (xs : Nat → Int32) (nx : Nat) (k18 : Int32 → z_Stt → Option (Bool × z_Stt)) (x3 : Int32) (S : z_Stt) : Option (Bool × z_Stt) :=
  if ¬ (x3 + 1 < 0 ∨ nx ≤ (x3 + 1).toNatClampNeg) then
    g_bd (f_X10_feed (xs (x3 + 1).toNatClampNeg) S) fun v2 S3 =>
    if ¬ (x3 + 1 < 0 ∨ nx ≤ (x3 + 1).toNatClampNeg) then
      g_bd (f_X11_feed (xs (x3 + 1).toNatClampNeg) S3) fun v6 S7 =>
      if v2 = v6 then
        f_L_law_1628 n xs nx k18 x3 S7
      else
        some (false, S7)
    else none
  else none
set_option maxHeartbeats 4000000 in
set_option maxRecDepth 100000 in
theorem t_L_law_372 {g : z_G} {K : z_K} (n : Nat) (xs : Nat → Int32) (nx : Nat) {S' : z_Stt} (cx : z_C g M_L_law 1000 K) {b : Nat} (lx : z_LK K b nx xs) (k18 : Int32 → z_Stt → Option (Bool × z_Stt)) (hk18 : ∀ (x3 : Int32) (S : z_Stt), k18 x3 S = some (true, S') → z_At g M_L_law K 18 [some (.ref b), some (.ref (z_ad g 0)), some (.ref (z_ad g 48)), some (.int x3)] [] (hp g S)) (x3 : Int32) (S : z_Stt) (h : f_L_law_372 n xs nx k18 x3 S = some (true, S')) : z_At g M_L_law K 372 [some (.ref b), some (.ref (z_ad g 0)), some (.ref (z_ad g 48)), some (.int x3)] [] (hp g S) := by
  unfold f_L_law_372 at h
  refine z_aload_n cx rfl rfl dL_law_372 ?_
  refine z_aload_n cx rfl rfl dL_law_373 ?_
  refine z_iload_n cx rfl rfl dL_law_374 ?_
  refine z_iconst (v := 1) cx (by decide +kernel) dL_law_375 ?_
  refine z_iadd cx dL_law_376 ?_
  obtain ⟨c1, h⟩ := g_if h
  refine z_sld cx lx c1 dL_law_377 ?_
  obtain ⟨v2, S3, e4, h⟩ := g_bd_ex h
  refine q_cvi (As := [.int (xs (x3 + 1).toNatClampNeg)]) cx mo_X10_feed mv_X10_feed z_cl10 rfl tb_313 (by decide) rfl (by decide) rfl rfl (Nat.le_of_ble_eq_true rfl) dL_law_378 (c_X10_feed (xs (x3 + 1).toNatClampNeg) _ e4) ?_
  refine z_aload_n cx rfl rfl dL_law_381 ?_
  refine z_aload_n cx rfl rfl dL_law_382 ?_
  refine z_iload_n cx rfl rfl dL_law_383 ?_
  refine z_iconst (v := 1) cx (by decide +kernel) dL_law_384 ?_
  refine z_iadd cx dL_law_385 ?_
  obtain ⟨c5, h⟩ := g_if h
  refine z_sld cx lx c5 dL_law_386 ?_
  obtain ⟨v6, S7, e8, h⟩ := g_bd_ex h
  refine q_cvi (As := [.int (xs (x3 + 1).toNatClampNeg)]) cx mo_X11_feed mv_X11_feed z_cl11 rfl tb_322 (by decide) rfl (by decide) rfl rfl (Nat.le_of_ble_eq_true rfl) dL_law_387 (c_X11_feed (xs (x3 + 1).toNatClampNeg) _ e8) ?_
  refine z_icmp_eq (tgt := 1628) cx (by decide) dL_law_390 (fun c9 => ?_) (fun c9 => ?_)
  · have h := g_t c9 h
    exact q_weak (z_wk_s (z_wk_s (z_wk_s (z_wk_s (z_wk_0))))) (t_L_law_1628 n xs nx cx lx k18 hk18 x3 S7 h)
  · have h := g_f c9 h
    refine z_iconst (v := 0) cx (by decide +kernel) dL_law_393 ?_
    exact absurd (g_some h).1 (by decide)
def f_L_law_395 (n : Nat) (xs : Nat → Int32) (nx : Nat) (k18 : Int32 → z_Stt → Option (Bool × z_Stt)) (x3 : Int32) (S : z_Stt) : Option (Bool × z_Stt) :=
  g_bd (f_X10_law n S) fun v1 S2 =>
  g_bd (f_X11_law n S2) fun v4 S5 =>
  if v1 = v4 then
    f_L_law_1628 n xs nx k18 x3 S5
  else
    some (false, S5)
set_option maxHeartbeats 4000000 in
set_option maxRecDepth 100000 in
theorem t_L_law_395 {g : z_G} {K : z_K} (n : Nat) (xs : Nat → Int32) (nx : Nat) {S' : z_Stt} (cx : z_C g M_L_law 1000 K) {b : Nat} (lx : z_LK K b nx xs) (k18 : Int32 → z_Stt → Option (Bool × z_Stt)) (hk18 : ∀ (x3 : Int32) (S : z_Stt), k18 x3 S = some (true, S') → z_At g M_L_law K 18 [some (.ref b), some (.ref (z_ad g 0)), some (.ref (z_ad g 48)), some (.int x3)] [] (hp g S)) (x3 : Int32) (S : z_Stt) (h : f_L_law_395 n xs nx k18 x3 S = some (true, S')) : z_At g M_L_law K 395 [some (.ref b), some (.ref (z_ad g 0)), some (.ref (z_ad g 48)), some (.int x3)] [] (hp g S) := by
  unfold f_L_law_395 at h
  refine z_aload_n cx rfl rfl dL_law_395 ?_
  obtain ⟨v1, S2, e3, h⟩ := g_bd_ex h
  refine q_cvi (As := []) cx mo_X10_law mv_X10_law z_cl10 rfl tb_328 (by decide) rfl (by decide) rfl rfl (Nat.le_of_ble_eq_true rfl) dL_law_396 (c_X10_law  _ e3) ?_
  refine z_aload_n cx rfl rfl dL_law_399 ?_
  obtain ⟨v4, S5, e6, h⟩ := g_bd_ex h
  refine q_cvi (As := []) cx mo_X11_law mv_X11_law z_cl11 rfl tb_386 (by decide) rfl (by decide) rfl rfl (Nat.le_of_ble_eq_true rfl) dL_law_400 (c_X11_law  _ e6) ?_
  refine z_icmp_eq (tgt := 1628) cx (by decide) dL_law_403 (fun c7 => ?_) (fun c7 => ?_)
  · have h := g_t c7 h
    exact q_weak (z_wk_s (z_wk_s (z_wk_s (z_wk_s (z_wk_0))))) (t_L_law_1628 n xs nx cx lx k18 hk18 x3 S5 h)
  · have h := g_f c7 h
    refine z_iconst (v := 0) cx (by decide +kernel) dL_law_406 ?_
    exact absurd (g_some h).1 (by decide)
def f_L_law_408 (n : Nat) (xs : Nat → Int32) (nx : Nat) (k18 : Int32 → z_Stt → Option (Bool × z_Stt)) (x3 : Int32) (S : z_Stt) : Option (Bool × z_Stt) :=
  if ¬ (x3 + 1 < 0 ∨ nx ≤ (x3 + 1).toNatClampNeg) then
    if ¬ (x3 + 2 < 0 ∨ nx ≤ (x3 + 2).toNatClampNeg) then
      if ¬ (x3 + 3 < 0 ∨ nx ≤ (x3 + 3).toNatClampNeg) then
        g_bd (f_X10_open n (xs (x3 + 1).toNatClampNeg) (xs (x3 + 2).toNatClampNeg) (xs (x3 + 3).toNatClampNeg) S) fun v4 S5 =>
        if ¬ (x3 + 1 < 0 ∨ nx ≤ (x3 + 1).toNatClampNeg) then
          if ¬ (x3 + 2 < 0 ∨ nx ≤ (x3 + 2).toNatClampNeg) then
            if ¬ (x3 + 3 < 0 ∨ nx ≤ (x3 + 3).toNatClampNeg) then
              g_bd (f_X11_open n (xs (x3 + 1).toNatClampNeg) (xs (x3 + 2).toNatClampNeg) (xs (x3 + 3).toNatClampNeg) S5) fun v10 S11 =>
              if lg_cmp v4 v10 = 0 then
                f_L_law_1628 n xs nx k18 x3 S11
              else
                some (false, S11)
            else none
          else none
        else none
      else none
    else none
  else none
set_option maxHeartbeats 4000000 in
set_option maxRecDepth 100000 in
theorem t_L_law_408 {g : z_G} {K : z_K} (n : Nat) (xs : Nat → Int32) (nx : Nat) {S' : z_Stt} (cx : z_C g M_L_law 1000 K) {b : Nat} (lx : z_LK K b nx xs) (k18 : Int32 → z_Stt → Option (Bool × z_Stt)) (hk18 : ∀ (x3 : Int32) (S : z_Stt), k18 x3 S = some (true, S') → z_At g M_L_law K 18 [some (.ref b), some (.ref (z_ad g 0)), some (.ref (z_ad g 48)), some (.int x3)] [] (hp g S)) (x3 : Int32) (S : z_Stt) (h : f_L_law_408 n xs nx k18 x3 S = some (true, S')) : z_At g M_L_law K 408 [some (.ref b), some (.ref (z_ad g 0)), some (.ref (z_ad g 48)), some (.int x3)] [] (hp g S) := by
  unfold f_L_law_408 at h
  refine z_aload_n cx rfl rfl dL_law_408 ?_
  refine z_aload_n cx rfl rfl dL_law_409 ?_
  refine z_iload_n cx rfl rfl dL_law_410 ?_
  refine z_iconst (v := 1) cx (by decide +kernel) dL_law_411 ?_
  refine z_iadd cx dL_law_412 ?_
  obtain ⟨c1, h⟩ := g_if h
  refine z_sld cx lx c1 dL_law_413 ?_
  refine z_aload_n cx rfl rfl dL_law_414 ?_
  refine z_iload_n cx rfl rfl dL_law_415 ?_
  refine z_iconst (v := 2) cx (by decide +kernel) dL_law_416 ?_
  refine z_iadd cx dL_law_417 ?_
  obtain ⟨c2, h⟩ := g_if h
  refine z_sld cx lx c2 dL_law_418 ?_
  refine z_aload_n cx rfl rfl dL_law_419 ?_
  refine z_iload_n cx rfl rfl dL_law_420 ?_
  refine z_iconst (v := 3) cx (by decide +kernel) dL_law_421 ?_
  refine z_iadd cx dL_law_422 ?_
  obtain ⟨c3, h⟩ := g_if h
  refine z_sld cx lx c3 dL_law_423 ?_
  obtain ⟨v4, S5, e6, h⟩ := g_bd_ex h
  refine q_cvl (As := [.int (xs (x3 + 1).toNatClampNeg), .int (xs (x3 + 2).toNatClampNeg), .int (xs (x3 + 3).toNatClampNeg)]) cx mo_X10_open mv_X10_open z_cl10 rfl tb_438 (by decide) rfl (by decide) rfl rfl (Nat.le_of_ble_eq_true rfl) dL_law_424 (c_X10_open (xs (x3 + 1).toNatClampNeg) (xs (x3 + 2).toNatClampNeg) (xs (x3 + 3).toNatClampNeg) _ e6) ?_
  refine z_aload_n cx rfl rfl dL_law_427 ?_
  refine z_aload_n cx rfl rfl dL_law_428 ?_
  refine z_iload_n cx rfl rfl dL_law_429 ?_
  refine z_iconst (v := 1) cx (by decide +kernel) dL_law_430 ?_
  refine z_iadd cx dL_law_431 ?_
  obtain ⟨c7, h⟩ := g_if h
  refine z_sld cx lx c7 dL_law_432 ?_
  refine z_aload_n cx rfl rfl dL_law_433 ?_
  refine z_iload_n cx rfl rfl dL_law_434 ?_
  refine z_iconst (v := 2) cx (by decide +kernel) dL_law_435 ?_
  refine z_iadd cx dL_law_436 ?_
  obtain ⟨c8, h⟩ := g_if h
  refine z_sld cx lx c8 dL_law_437 ?_
  refine z_aload_n cx rfl rfl dL_law_438 ?_
  refine z_iload_n cx rfl rfl dL_law_439 ?_
  refine z_iconst (v := 3) cx (by decide +kernel) dL_law_440 ?_
  refine z_iadd cx dL_law_441 ?_
  obtain ⟨c9, h⟩ := g_if h
  refine z_sld cx lx c9 dL_law_442 ?_
  obtain ⟨v10, S11, e12, h⟩ := g_bd_ex h
  refine q_cvl (As := [.int (xs (x3 + 1).toNatClampNeg), .int (xs (x3 + 2).toNatClampNeg), .int (xs (x3 + 3).toNatClampNeg)]) cx mo_X11_open mv_X11_open z_cl11 rfl tb_480 (by decide) rfl (by decide) rfl rfl (Nat.le_of_ble_eq_true rfl) dL_law_443 (c_X11_open (xs (x3 + 1).toNatClampNeg) (xs (x3 + 2).toNatClampNeg) (xs (x3 + 3).toNatClampNeg) _ e12) ?_
  refine z_lcmp cx dL_law_446 ?_
  refine z_if_eq (tgt := 1628) cx (by decide) dL_law_447 (fun c13 => ?_) (fun c13 => ?_)
  · have h := g_t c13 h
    exact q_weak (z_wk_s (z_wk_s (z_wk_s (z_wk_s (z_wk_0))))) (t_L_law_1628 n xs nx cx lx k18 hk18 x3 S11 h)
  · have h := g_f c13 h
    refine z_iconst (v := 0) cx (by decide +kernel) dL_law_450 ?_
    exact absurd (g_some h).1 (by decide)
def f_L_law_452 (n : Nat) (xs : Nat → Int32) (nx : Nat) (k18 : Int32 → z_Stt → Option (Bool × z_Stt)) (x3 : Int32) (S : z_Stt) : Option (Bool × z_Stt) :=
  if ¬ (x3 + 1 < 0 ∨ nx ≤ (x3 + 1).toNatClampNeg) then
    if ¬ (x3 + 2 < 0 ∨ nx ≤ (x3 + 2).toNatClampNeg) then
      g_bd (f_X10_pays n (xs (x3 + 1).toNatClampNeg) (xs (x3 + 2).toNatClampNeg) S) fun v3 S4 =>
      if ¬ (x3 + 1 < 0 ∨ nx ≤ (x3 + 1).toNatClampNeg) then
        if ¬ (x3 + 2 < 0 ∨ nx ≤ (x3 + 2).toNatClampNeg) then
          g_bd (f_X11_pays (xs (x3 + 1).toNatClampNeg) (xs (x3 + 2).toNatClampNeg) S4) fun v8 S9 =>
          if v3 = v8 then
            f_L_law_1628 n xs nx k18 x3 S9
          else
            some (false, S9)
        else none
      else none
    else none
  else none
set_option maxHeartbeats 4000000 in
set_option maxRecDepth 100000 in
theorem t_L_law_452 {g : z_G} {K : z_K} (n : Nat) (xs : Nat → Int32) (nx : Nat) {S' : z_Stt} (cx : z_C g M_L_law 1000 K) {b : Nat} (lx : z_LK K b nx xs) (k18 : Int32 → z_Stt → Option (Bool × z_Stt)) (hk18 : ∀ (x3 : Int32) (S : z_Stt), k18 x3 S = some (true, S') → z_At g M_L_law K 18 [some (.ref b), some (.ref (z_ad g 0)), some (.ref (z_ad g 48)), some (.int x3)] [] (hp g S)) (x3 : Int32) (S : z_Stt) (h : f_L_law_452 n xs nx k18 x3 S = some (true, S')) : z_At g M_L_law K 452 [some (.ref b), some (.ref (z_ad g 0)), some (.ref (z_ad g 48)), some (.int x3)] [] (hp g S) := by
  unfold f_L_law_452 at h
  refine z_aload_n cx rfl rfl dL_law_452 ?_
  refine z_aload_n cx rfl rfl dL_law_453 ?_
  refine z_iload_n cx rfl rfl dL_law_454 ?_
  refine z_iconst (v := 1) cx (by decide +kernel) dL_law_455 ?_
  refine z_iadd cx dL_law_456 ?_
  obtain ⟨c1, h⟩ := g_if h
  refine z_sld cx lx c1 dL_law_457 ?_
  refine z_aload_n cx rfl rfl dL_law_458 ?_
  refine z_iload_n cx rfl rfl dL_law_459 ?_
  refine z_iconst (v := 2) cx (by decide +kernel) dL_law_460 ?_
  refine z_iadd cx dL_law_461 ?_
  obtain ⟨c2, h⟩ := g_if h
  refine z_sld cx lx c2 dL_law_462 ?_
  obtain ⟨v3, S4, e5, h⟩ := g_bd_ex h
  refine q_cvi (As := [.int (xs (x3 + 1).toNatClampNeg), .int (xs (x3 + 2).toNatClampNeg)]) cx mo_X10_pays mv_X10_pays z_cl10 rfl tb_514 (by decide) rfl (by decide) rfl rfl (Nat.le_of_ble_eq_true rfl) dL_law_463 (c_X10_pays (xs (x3 + 1).toNatClampNeg) (xs (x3 + 2).toNatClampNeg) _ e5) ?_
  refine z_aload_n cx rfl rfl dL_law_466 ?_
  refine z_aload_n cx rfl rfl dL_law_467 ?_
  refine z_iload_n cx rfl rfl dL_law_468 ?_
  refine z_iconst (v := 1) cx (by decide +kernel) dL_law_469 ?_
  refine z_iadd cx dL_law_470 ?_
  obtain ⟨c6, h⟩ := g_if h
  refine z_sld cx lx c6 dL_law_471 ?_
  refine z_aload_n cx rfl rfl dL_law_472 ?_
  refine z_iload_n cx rfl rfl dL_law_473 ?_
  refine z_iconst (v := 2) cx (by decide +kernel) dL_law_474 ?_
  refine z_iadd cx dL_law_475 ?_
  obtain ⟨c7, h⟩ := g_if h
  refine z_sld cx lx c7 dL_law_476 ?_
  obtain ⟨v8, S9, e10, h⟩ := g_bd_ex h
  refine q_cvi (As := [.int (xs (x3 + 1).toNatClampNeg), .int (xs (x3 + 2).toNatClampNeg)]) cx mo_X11_pays mv_X11_pays z_cl11 rfl tb_536 (by decide) rfl (by decide) rfl rfl (Nat.le_of_ble_eq_true rfl) dL_law_477 (c_X11_pays (xs (x3 + 1).toNatClampNeg) (xs (x3 + 2).toNatClampNeg) _ e10) ?_
  refine z_icmp_eq (tgt := 1628) cx (by decide) dL_law_480 (fun c11 => ?_) (fun c11 => ?_)
  · have h := g_t c11 h
    exact q_weak (z_wk_s (z_wk_s (z_wk_s (z_wk_s (z_wk_0))))) (t_L_law_1628 n xs nx cx lx k18 hk18 x3 S9 h)
  · have h := g_f c11 h
    refine z_iconst (v := 0) cx (by decide +kernel) dL_law_483 ?_
    exact absurd (g_some h).1 (by decide)
def f_L_law_485 (n : Nat) (xs : Nat → Int32) (nx : Nat) (k18 : Int32 → z_Stt → Option (Bool × z_Stt)) (x3 : Int32) (S : z_Stt) : Option (Bool × z_Stt) :=
  if ¬ (x3 + 1 < 0 ∨ nx ≤ (x3 + 1).toNatClampNeg) then
    if ¬ (x3 + 2 < 0 ∨ nx ≤ (x3 + 2).toNatClampNeg) then
      if ¬ (x3 + 3 < 0 ∨ nx ≤ (x3 + 3).toNatClampNeg) then
        g_bd (f_X10_worth n (xs (x3 + 1).toNatClampNeg) (xs (x3 + 2).toNatClampNeg) (xs (x3 + 3).toNatClampNeg) S) fun v4 S5 =>
        if ¬ (x3 + 1 < 0 ∨ nx ≤ (x3 + 1).toNatClampNeg) then
          if ¬ (x3 + 2 < 0 ∨ nx ≤ (x3 + 2).toNatClampNeg) then
            if ¬ (x3 + 3 < 0 ∨ nx ≤ (x3 + 3).toNatClampNeg) then
              g_bd (f_X11_worth n (xs (x3 + 1).toNatClampNeg) (xs (x3 + 2).toNatClampNeg) (xs (x3 + 3).toNatClampNeg) S5) fun v10 S11 =>
              if lg_cmp v4 v10 = 0 then
                f_L_law_1628 n xs nx k18 x3 S11
              else
                some (false, S11)
            else none
          else none
        else none
      else none
    else none
  else none
set_option maxHeartbeats 4000000 in
set_option maxRecDepth 100000 in
theorem t_L_law_485 {g : z_G} {K : z_K} (n : Nat) (xs : Nat → Int32) (nx : Nat) {S' : z_Stt} (cx : z_C g M_L_law 1000 K) {b : Nat} (lx : z_LK K b nx xs) (k18 : Int32 → z_Stt → Option (Bool × z_Stt)) (hk18 : ∀ (x3 : Int32) (S : z_Stt), k18 x3 S = some (true, S') → z_At g M_L_law K 18 [some (.ref b), some (.ref (z_ad g 0)), some (.ref (z_ad g 48)), some (.int x3)] [] (hp g S)) (x3 : Int32) (S : z_Stt) (h : f_L_law_485 n xs nx k18 x3 S = some (true, S')) : z_At g M_L_law K 485 [some (.ref b), some (.ref (z_ad g 0)), some (.ref (z_ad g 48)), some (.int x3)] [] (hp g S) := by
  unfold f_L_law_485 at h
  refine z_aload_n cx rfl rfl dL_law_485 ?_
  refine z_aload_n cx rfl rfl dL_law_486 ?_
  refine z_iload_n cx rfl rfl dL_law_487 ?_
  refine z_iconst (v := 1) cx (by decide +kernel) dL_law_488 ?_
  refine z_iadd cx dL_law_489 ?_
  obtain ⟨c1, h⟩ := g_if h
  refine z_sld cx lx c1 dL_law_490 ?_
  refine z_aload_n cx rfl rfl dL_law_491 ?_
  refine z_iload_n cx rfl rfl dL_law_492 ?_
  refine z_iconst (v := 2) cx (by decide +kernel) dL_law_493 ?_
  refine z_iadd cx dL_law_494 ?_
  obtain ⟨c2, h⟩ := g_if h
  refine z_sld cx lx c2 dL_law_495 ?_
  refine z_aload_n cx rfl rfl dL_law_496 ?_
  refine z_iload_n cx rfl rfl dL_law_497 ?_
  refine z_iconst (v := 3) cx (by decide +kernel) dL_law_498 ?_
  refine z_iadd cx dL_law_499 ?_
  obtain ⟨c3, h⟩ := g_if h
  refine z_sld cx lx c3 dL_law_500 ?_
  obtain ⟨v4, S5, e6, h⟩ := g_bd_ex h
  refine q_cvl (As := [.int (xs (x3 + 1).toNatClampNeg), .int (xs (x3 + 2).toNatClampNeg), .int (xs (x3 + 3).toNatClampNeg)]) cx mo_X10_worth mv_X10_worth z_cl10 rfl tb_556 (by decide) rfl (by decide) rfl rfl (Nat.le_of_ble_eq_true rfl) dL_law_501 (c_X10_worth (xs (x3 + 1).toNatClampNeg) (xs (x3 + 2).toNatClampNeg) (xs (x3 + 3).toNatClampNeg) _ e6) ?_
  refine z_aload_n cx rfl rfl dL_law_504 ?_
  refine z_aload_n cx rfl rfl dL_law_505 ?_
  refine z_iload_n cx rfl rfl dL_law_506 ?_
  refine z_iconst (v := 1) cx (by decide +kernel) dL_law_507 ?_
  refine z_iadd cx dL_law_508 ?_
  obtain ⟨c7, h⟩ := g_if h
  refine z_sld cx lx c7 dL_law_509 ?_
  refine z_aload_n cx rfl rfl dL_law_510 ?_
  refine z_iload_n cx rfl rfl dL_law_511 ?_
  refine z_iconst (v := 2) cx (by decide +kernel) dL_law_512 ?_
  refine z_iadd cx dL_law_513 ?_
  obtain ⟨c8, h⟩ := g_if h
  refine z_sld cx lx c8 dL_law_514 ?_
  refine z_aload_n cx rfl rfl dL_law_515 ?_
  refine z_iload_n cx rfl rfl dL_law_516 ?_
  refine z_iconst (v := 3) cx (by decide +kernel) dL_law_517 ?_
  refine z_iadd cx dL_law_518 ?_
  obtain ⟨c9, h⟩ := g_if h
  refine z_sld cx lx c9 dL_law_519 ?_
  obtain ⟨v10, S11, e12, h⟩ := g_bd_ex h
  refine q_cvl (As := [.int (xs (x3 + 1).toNatClampNeg), .int (xs (x3 + 2).toNatClampNeg), .int (xs (x3 + 3).toNatClampNeg)]) cx mo_X11_worth mv_X11_worth z_cl11 rfl tb_560 (by decide) rfl (by decide) rfl rfl (Nat.le_of_ble_eq_true rfl) dL_law_520 (c_X11_worth (xs (x3 + 1).toNatClampNeg) (xs (x3 + 2).toNatClampNeg) (xs (x3 + 3).toNatClampNeg) _ e12) ?_
  refine z_lcmp cx dL_law_523 ?_
  refine z_if_eq (tgt := 1628) cx (by decide) dL_law_524 (fun c13 => ?_) (fun c13 => ?_)
  · have h := g_t c13 h
    exact q_weak (z_wk_s (z_wk_s (z_wk_s (z_wk_s (z_wk_0))))) (t_L_law_1628 n xs nx cx lx k18 hk18 x3 S11 h)
  · have h := g_f c13 h
    refine z_iconst (v := 0) cx (by decide +kernel) dL_law_527 ?_
    exact absurd (g_some h).1 (by decide)
def f_L_law_529 (n : Nat) (xs : Nat → Int32) (nx : Nat) (k18 : Int32 → z_Stt → Option (Bool × z_Stt)) (x3 : Int32) (S : z_Stt) : Option (Bool × z_Stt) :=
  if ¬ (x3 + 1 < 0 ∨ nx ≤ (x3 + 1).toNatClampNeg) then
    g_bd (f_X10_howFar n (xs (x3 + 1).toNatClampNeg) S) fun v2 S3 =>
    if ¬ (x3 + 1 < 0 ∨ nx ≤ (x3 + 1).toNatClampNeg) then
      g_bd (f_X11_howFar n (xs (x3 + 1).toNatClampNeg) S3) fun v6 S7 =>
      if v2 = v6 then
        f_L_law_1628 n xs nx k18 x3 S7
      else
        some (false, S7)
    else none
  else none
set_option maxHeartbeats 4000000 in
set_option maxRecDepth 100000 in
theorem t_L_law_529 {g : z_G} {K : z_K} (n : Nat) (xs : Nat → Int32) (nx : Nat) {S' : z_Stt} (cx : z_C g M_L_law 1000 K) {b : Nat} (lx : z_LK K b nx xs) (k18 : Int32 → z_Stt → Option (Bool × z_Stt)) (hk18 : ∀ (x3 : Int32) (S : z_Stt), k18 x3 S = some (true, S') → z_At g M_L_law K 18 [some (.ref b), some (.ref (z_ad g 0)), some (.ref (z_ad g 48)), some (.int x3)] [] (hp g S)) (x3 : Int32) (S : z_Stt) (h : f_L_law_529 n xs nx k18 x3 S = some (true, S')) : z_At g M_L_law K 529 [some (.ref b), some (.ref (z_ad g 0)), some (.ref (z_ad g 48)), some (.int x3)] [] (hp g S) := by
  unfold f_L_law_529 at h
  refine z_aload_n cx rfl rfl dL_law_529 ?_
  refine z_aload_n cx rfl rfl dL_law_530 ?_
  refine z_iload_n cx rfl rfl dL_law_531 ?_
  refine z_iconst (v := 1) cx (by decide +kernel) dL_law_532 ?_
  refine z_iadd cx dL_law_533 ?_
  obtain ⟨c1, h⟩ := g_if h
  refine z_sld cx lx c1 dL_law_534 ?_
  obtain ⟨v2, S3, e4, h⟩ := g_bd_ex h
  refine q_cvi (As := [.int (xs (x3 + 1).toNatClampNeg)]) cx mo_X10_howFar mv_X10_howFar z_cl10 rfl tb_564 (by decide) rfl (by decide) rfl rfl (Nat.le_of_ble_eq_true rfl) dL_law_535 (c_X10_howFar (xs (x3 + 1).toNatClampNeg) _ e4) ?_
  refine z_aload_n cx rfl rfl dL_law_538 ?_
  refine z_aload_n cx rfl rfl dL_law_539 ?_
  refine z_iload_n cx rfl rfl dL_law_540 ?_
  refine z_iconst (v := 1) cx (by decide +kernel) dL_law_541 ?_
  refine z_iadd cx dL_law_542 ?_
  obtain ⟨c5, h⟩ := g_if h
  refine z_sld cx lx c5 dL_law_543 ?_
  obtain ⟨v6, S7, e8, h⟩ := g_bd_ex h
  refine q_cvi (As := [.int (xs (x3 + 1).toNatClampNeg)]) cx mo_X11_howFar mv_X11_howFar z_cl11 rfl tb_568 (by decide) rfl (by decide) rfl rfl (Nat.le_of_ble_eq_true rfl) dL_law_544 (c_X11_howFar (xs (x3 + 1).toNatClampNeg) _ e8) ?_
  refine z_icmp_eq (tgt := 1628) cx (by decide) dL_law_547 (fun c9 => ?_) (fun c9 => ?_)
  · have h := g_t c9 h
    exact q_weak (z_wk_s (z_wk_s (z_wk_s (z_wk_s (z_wk_0))))) (t_L_law_1628 n xs nx cx lx k18 hk18 x3 S7 h)
  · have h := g_f c9 h
    refine z_iconst (v := 0) cx (by decide +kernel) dL_law_550 ?_
    exact absurd (g_some h).1 (by decide)
def f_L_law_552 (n : Nat) (xs : Nat → Int32) (nx : Nat) (k18 : Int32 → z_Stt → Option (Bool × z_Stt)) (x3 : Int32) (S : z_Stt) : Option (Bool × z_Stt) :=
  if ¬ (x3 + 1 < 0 ∨ nx ≤ (x3 + 1).toNatClampNeg) then
    if ¬ (x3 + 2 < 0 ∨ nx ≤ (x3 + 2).toNatClampNeg) then
      if ¬ (x3 + 3 < 0 ∨ nx ≤ (x3 + 3).toNatClampNeg) then
        g_bd (f_X10_best n (xs (x3 + 1).toNatClampNeg) (xs (x3 + 2).toNatClampNeg) (xs (x3 + 3).toNatClampNeg) S) fun v4 S5 =>
        if ¬ (x3 + 1 < 0 ∨ nx ≤ (x3 + 1).toNatClampNeg) then
          if ¬ (x3 + 2 < 0 ∨ nx ≤ (x3 + 2).toNatClampNeg) then
            if ¬ (x3 + 3 < 0 ∨ nx ≤ (x3 + 3).toNatClampNeg) then
              g_bd (f_X11_best n (xs (x3 + 1).toNatClampNeg) (xs (x3 + 2).toNatClampNeg) (xs (x3 + 3).toNatClampNeg) S5) fun v10 S11 =>
              if lg_cmp v4 v10 = 0 then
                f_L_law_1628 n xs nx k18 x3 S11
              else
                some (false, S11)
            else none
          else none
        else none
      else none
    else none
  else none
set_option maxHeartbeats 4000000 in
set_option maxRecDepth 100000 in
theorem t_L_law_552 {g : z_G} {K : z_K} (n : Nat) (xs : Nat → Int32) (nx : Nat) {S' : z_Stt} (cx : z_C g M_L_law 1000 K) {b : Nat} (lx : z_LK K b nx xs) (k18 : Int32 → z_Stt → Option (Bool × z_Stt)) (hk18 : ∀ (x3 : Int32) (S : z_Stt), k18 x3 S = some (true, S') → z_At g M_L_law K 18 [some (.ref b), some (.ref (z_ad g 0)), some (.ref (z_ad g 48)), some (.int x3)] [] (hp g S)) (x3 : Int32) (S : z_Stt) (h : f_L_law_552 n xs nx k18 x3 S = some (true, S')) : z_At g M_L_law K 552 [some (.ref b), some (.ref (z_ad g 0)), some (.ref (z_ad g 48)), some (.int x3)] [] (hp g S) := by
  unfold f_L_law_552 at h
  refine z_aload_n cx rfl rfl dL_law_552 ?_
  refine z_aload_n cx rfl rfl dL_law_553 ?_
  refine z_iload_n cx rfl rfl dL_law_554 ?_
  refine z_iconst (v := 1) cx (by decide +kernel) dL_law_555 ?_
  refine z_iadd cx dL_law_556 ?_
  obtain ⟨c1, h⟩ := g_if h
  refine z_sld cx lx c1 dL_law_557 ?_
  refine z_aload_n cx rfl rfl dL_law_558 ?_
  refine z_iload_n cx rfl rfl dL_law_559 ?_
  refine z_iconst (v := 2) cx (by decide +kernel) dL_law_560 ?_
  refine z_iadd cx dL_law_561 ?_
  obtain ⟨c2, h⟩ := g_if h
  refine z_sld cx lx c2 dL_law_562 ?_
  refine z_aload_n cx rfl rfl dL_law_563 ?_
  refine z_iload_n cx rfl rfl dL_law_564 ?_
  refine z_iconst (v := 3) cx (by decide +kernel) dL_law_565 ?_
  refine z_iadd cx dL_law_566 ?_
  obtain ⟨c3, h⟩ := g_if h
  refine z_sld cx lx c3 dL_law_567 ?_
  obtain ⟨v4, S5, e6, h⟩ := g_bd_ex h
  refine q_cvl (As := [.int (xs (x3 + 1).toNatClampNeg), .int (xs (x3 + 2).toNatClampNeg), .int (xs (x3 + 3).toNatClampNeg)]) cx mo_X10_best mv_X10_best z_cl10 rfl tb_572 (by decide) rfl (by decide) rfl rfl (Nat.le_of_ble_eq_true rfl) dL_law_568 (c_X10_best (xs (x3 + 1).toNatClampNeg) (xs (x3 + 2).toNatClampNeg) (xs (x3 + 3).toNatClampNeg) _ e6) ?_
  refine z_aload_n cx rfl rfl dL_law_571 ?_
  refine z_aload_n cx rfl rfl dL_law_572 ?_
  refine z_iload_n cx rfl rfl dL_law_573 ?_
  refine z_iconst (v := 1) cx (by decide +kernel) dL_law_574 ?_
  refine z_iadd cx dL_law_575 ?_
  obtain ⟨c7, h⟩ := g_if h
  refine z_sld cx lx c7 dL_law_576 ?_
  refine z_aload_n cx rfl rfl dL_law_577 ?_
  refine z_iload_n cx rfl rfl dL_law_578 ?_
  refine z_iconst (v := 2) cx (by decide +kernel) dL_law_579 ?_
  refine z_iadd cx dL_law_580 ?_
  obtain ⟨c8, h⟩ := g_if h
  refine z_sld cx lx c8 dL_law_581 ?_
  refine z_aload_n cx rfl rfl dL_law_582 ?_
  refine z_iload_n cx rfl rfl dL_law_583 ?_
  refine z_iconst (v := 3) cx (by decide +kernel) dL_law_584 ?_
  refine z_iadd cx dL_law_585 ?_
  obtain ⟨c9, h⟩ := g_if h
  refine z_sld cx lx c9 dL_law_586 ?_
  obtain ⟨v10, S11, e12, h⟩ := g_bd_ex h
  refine q_cvl (As := [.int (xs (x3 + 1).toNatClampNeg), .int (xs (x3 + 2).toNatClampNeg), .int (xs (x3 + 3).toNatClampNeg)]) cx mo_X11_best mv_X11_best z_cl11 rfl tb_628 (by decide) rfl (by decide) rfl rfl (Nat.le_of_ble_eq_true rfl) dL_law_587 (c_X11_best (xs (x3 + 1).toNatClampNeg) (xs (x3 + 2).toNatClampNeg) (xs (x3 + 3).toNatClampNeg) _ e12) ?_
  refine z_lcmp cx dL_law_590 ?_
  refine z_if_eq (tgt := 1628) cx (by decide) dL_law_591 (fun c13 => ?_) (fun c13 => ?_)
  · have h := g_t c13 h
    exact q_weak (z_wk_s (z_wk_s (z_wk_s (z_wk_s (z_wk_0))))) (t_L_law_1628 n xs nx cx lx k18 hk18 x3 S11 h)
  · have h := g_f c13 h
    refine z_iconst (v := 0) cx (by decide +kernel) dL_law_594 ?_
    exact absurd (g_some h).1 (by decide)
def f_L_law_596 (n : Nat) (xs : Nat → Int32) (nx : Nat) (k18 : Int32 → z_Stt → Option (Bool × z_Stt)) (x3 : Int32) (S : z_Stt) : Option (Bool × z_Stt) :=
  if ¬ (x3 + 1 < 0 ∨ nx ≤ (x3 + 1).toNatClampNeg) then
    if ¬ (x3 + 2 < 0 ∨ nx ≤ (x3 + 2).toNatClampNeg) then
      g_bd (f_X10_gone n (xs (x3 + 1).toNatClampNeg) (xs (x3 + 2).toNatClampNeg) S) fun v3 S4 =>
      if ¬ (x3 + 1 < 0 ∨ nx ≤ (x3 + 1).toNatClampNeg) then
        if ¬ (x3 + 2 < 0 ∨ nx ≤ (x3 + 2).toNatClampNeg) then
          g_bd (f_X11_gone n (xs (x3 + 1).toNatClampNeg) (xs (x3 + 2).toNatClampNeg) S4) fun v8 S9 =>
          if v3 = v8 then
            f_L_law_1628 n xs nx k18 x3 S9
          else
            some (false, S9)
        else none
      else none
    else none
  else none
set_option maxHeartbeats 4000000 in
set_option maxRecDepth 100000 in
theorem t_L_law_596 {g : z_G} {K : z_K} (n : Nat) (xs : Nat → Int32) (nx : Nat) {S' : z_Stt} (cx : z_C g M_L_law 1000 K) {b : Nat} (lx : z_LK K b nx xs) (k18 : Int32 → z_Stt → Option (Bool × z_Stt)) (hk18 : ∀ (x3 : Int32) (S : z_Stt), k18 x3 S = some (true, S') → z_At g M_L_law K 18 [some (.ref b), some (.ref (z_ad g 0)), some (.ref (z_ad g 48)), some (.int x3)] [] (hp g S)) (x3 : Int32) (S : z_Stt) (h : f_L_law_596 n xs nx k18 x3 S = some (true, S')) : z_At g M_L_law K 596 [some (.ref b), some (.ref (z_ad g 0)), some (.ref (z_ad g 48)), some (.int x3)] [] (hp g S) := by
  unfold f_L_law_596 at h
  refine z_aload_n cx rfl rfl dL_law_596 ?_
  refine z_aload_n cx rfl rfl dL_law_597 ?_
  refine z_iload_n cx rfl rfl dL_law_598 ?_
  refine z_iconst (v := 1) cx (by decide +kernel) dL_law_599 ?_
  refine z_iadd cx dL_law_600 ?_
  obtain ⟨c1, h⟩ := g_if h
  refine z_sld cx lx c1 dL_law_601 ?_
  refine z_aload_n cx rfl rfl dL_law_602 ?_
  refine z_iload_n cx rfl rfl dL_law_603 ?_
  refine z_iconst (v := 2) cx (by decide +kernel) dL_law_604 ?_
  refine z_iadd cx dL_law_605 ?_
  obtain ⟨c2, h⟩ := g_if h
  refine z_sld cx lx c2 dL_law_606 ?_
  obtain ⟨v3, S4, e5, h⟩ := g_bd_ex h
  refine q_cvi (As := [.int (xs (x3 + 1).toNatClampNeg), .int (xs (x3 + 2).toNatClampNeg)]) cx mo_X10_gone mv_X10_gone z_cl10 rfl tb_655 (by decide) rfl (by decide) rfl rfl (Nat.le_of_ble_eq_true rfl) dL_law_607 (c_X10_gone (xs (x3 + 1).toNatClampNeg) (xs (x3 + 2).toNatClampNeg) _ e5) ?_
  refine z_aload_n cx rfl rfl dL_law_610 ?_
  refine z_aload_n cx rfl rfl dL_law_611 ?_
  refine z_iload_n cx rfl rfl dL_law_612 ?_
  refine z_iconst (v := 1) cx (by decide +kernel) dL_law_613 ?_
  refine z_iadd cx dL_law_614 ?_
  obtain ⟨c6, h⟩ := g_if h
  refine z_sld cx lx c6 dL_law_615 ?_
  refine z_aload_n cx rfl rfl dL_law_616 ?_
  refine z_iload_n cx rfl rfl dL_law_617 ?_
  refine z_iconst (v := 2) cx (by decide +kernel) dL_law_618 ?_
  refine z_iadd cx dL_law_619 ?_
  obtain ⟨c7, h⟩ := g_if h
  refine z_sld cx lx c7 dL_law_620 ?_
  obtain ⟨v8, S9, e10, h⟩ := g_bd_ex h
  refine q_cvi (As := [.int (xs (x3 + 1).toNatClampNeg), .int (xs (x3 + 2).toNatClampNeg)]) cx mo_X11_gone mv_X11_gone z_cl11 rfl tb_673 (by decide) rfl (by decide) rfl rfl (Nat.le_of_ble_eq_true rfl) dL_law_621 (c_X11_gone (xs (x3 + 1).toNatClampNeg) (xs (x3 + 2).toNatClampNeg) _ e10) ?_
  refine z_icmp_eq (tgt := 1628) cx (by decide) dL_law_624 (fun c11 => ?_) (fun c11 => ?_)
  · have h := g_t c11 h
    exact q_weak (z_wk_s (z_wk_s (z_wk_s (z_wk_s (z_wk_0))))) (t_L_law_1628 n xs nx cx lx k18 hk18 x3 S9 h)
  · have h := g_f c11 h
    refine z_iconst (v := 0) cx (by decide +kernel) dL_law_627 ?_
    exact absurd (g_some h).1 (by decide)
def f_L_law_629 (n : Nat) (xs : Nat → Int32) (nx : Nat) (k18 : Int32 → z_Stt → Option (Bool × z_Stt)) (x3 : Int32) (S : z_Stt) : Option (Bool × z_Stt) :=
  if ¬ (x3 + 1 < 0 ∨ nx ≤ (x3 + 1).toNatClampNeg) then
    if ¬ (x3 + 2 < 0 ∨ nx ≤ (x3 + 2).toNatClampNeg) then
      if ¬ (x3 + 3 < 0 ∨ nx ≤ (x3 + 3).toNatClampNeg) then
        g_bd (f_X10_plan n (xs (x3 + 1).toNatClampNeg) (xs (x3 + 2).toNatClampNeg) (xs (x3 + 3).toNatClampNeg) S) fun v4 S5 =>
        if ¬ (x3 + 1 < 0 ∨ nx ≤ (x3 + 1).toNatClampNeg) then
          if ¬ (x3 + 2 < 0 ∨ nx ≤ (x3 + 2).toNatClampNeg) then
            if ¬ (x3 + 3 < 0 ∨ nx ≤ (x3 + 3).toNatClampNeg) then
              g_bd (f_X11_plan n (xs (x3 + 1).toNatClampNeg) (xs (x3 + 2).toNatClampNeg) (xs (x3 + 3).toNatClampNeg) S5) fun v10 S11 =>
              if lg_cmp v4 v10 = 0 then
                f_L_law_1628 n xs nx k18 x3 S11
              else
                some (false, S11)
            else none
          else none
        else none
      else none
    else none
  else none
set_option maxHeartbeats 4000000 in
set_option maxRecDepth 100000 in
theorem t_L_law_629 {g : z_G} {K : z_K} (n : Nat) (xs : Nat → Int32) (nx : Nat) {S' : z_Stt} (cx : z_C g M_L_law 1000 K) {b : Nat} (lx : z_LK K b nx xs) (k18 : Int32 → z_Stt → Option (Bool × z_Stt)) (hk18 : ∀ (x3 : Int32) (S : z_Stt), k18 x3 S = some (true, S') → z_At g M_L_law K 18 [some (.ref b), some (.ref (z_ad g 0)), some (.ref (z_ad g 48)), some (.int x3)] [] (hp g S)) (x3 : Int32) (S : z_Stt) (h : f_L_law_629 n xs nx k18 x3 S = some (true, S')) : z_At g M_L_law K 629 [some (.ref b), some (.ref (z_ad g 0)), some (.ref (z_ad g 48)), some (.int x3)] [] (hp g S) := by
  unfold f_L_law_629 at h
  refine z_aload_n cx rfl rfl dL_law_629 ?_
  refine z_aload_n cx rfl rfl dL_law_630 ?_
  refine z_iload_n cx rfl rfl dL_law_631 ?_
  refine z_iconst (v := 1) cx (by decide +kernel) dL_law_632 ?_
  refine z_iadd cx dL_law_633 ?_
  obtain ⟨c1, h⟩ := g_if h
  refine z_sld cx lx c1 dL_law_634 ?_
  refine z_aload_n cx rfl rfl dL_law_635 ?_
  refine z_iload_n cx rfl rfl dL_law_636 ?_
  refine z_iconst (v := 2) cx (by decide +kernel) dL_law_637 ?_
  refine z_iadd cx dL_law_638 ?_
  obtain ⟨c2, h⟩ := g_if h
  refine z_sld cx lx c2 dL_law_639 ?_
  refine z_aload_n cx rfl rfl dL_law_640 ?_
  refine z_iload_n cx rfl rfl dL_law_641 ?_
  refine z_iconst (v := 3) cx (by decide +kernel) dL_law_642 ?_
  refine z_iadd cx dL_law_643 ?_
  obtain ⟨c3, h⟩ := g_if h
  refine z_sld cx lx c3 dL_law_644 ?_
  obtain ⟨v4, S5, e6, h⟩ := g_bd_ex h
  refine q_cvl (As := [.int (xs (x3 + 1).toNatClampNeg), .int (xs (x3 + 2).toNatClampNeg), .int (xs (x3 + 3).toNatClampNeg)]) cx mo_X10_plan mv_X10_plan z_cl10 rfl tb_681 (by decide) rfl (by decide) rfl rfl (Nat.le_of_ble_eq_true rfl) dL_law_645 (c_X10_plan (xs (x3 + 1).toNatClampNeg) (xs (x3 + 2).toNatClampNeg) (xs (x3 + 3).toNatClampNeg) _ e6) ?_
  refine z_aload_n cx rfl rfl dL_law_648 ?_
  refine z_aload_n cx rfl rfl dL_law_649 ?_
  refine z_iload_n cx rfl rfl dL_law_650 ?_
  refine z_iconst (v := 1) cx (by decide +kernel) dL_law_651 ?_
  refine z_iadd cx dL_law_652 ?_
  obtain ⟨c7, h⟩ := g_if h
  refine z_sld cx lx c7 dL_law_653 ?_
  refine z_aload_n cx rfl rfl dL_law_654 ?_
  refine z_iload_n cx rfl rfl dL_law_655 ?_
  refine z_iconst (v := 2) cx (by decide +kernel) dL_law_656 ?_
  refine z_iadd cx dL_law_657 ?_
  obtain ⟨c8, h⟩ := g_if h
  refine z_sld cx lx c8 dL_law_658 ?_
  refine z_aload_n cx rfl rfl dL_law_659 ?_
  refine z_iload_n cx rfl rfl dL_law_660 ?_
  refine z_iconst (v := 3) cx (by decide +kernel) dL_law_661 ?_
  refine z_iadd cx dL_law_662 ?_
  obtain ⟨c9, h⟩ := g_if h
  refine z_sld cx lx c9 dL_law_663 ?_
  obtain ⟨v10, S11, e12, h⟩ := g_bd_ex h
  refine q_cvl (As := [.int (xs (x3 + 1).toNatClampNeg), .int (xs (x3 + 2).toNatClampNeg), .int (xs (x3 + 3).toNatClampNeg)]) cx mo_X11_plan mv_X11_plan z_cl11 rfl tb_699 (by decide) rfl (by decide) rfl rfl (Nat.le_of_ble_eq_true rfl) dL_law_664 (c_X11_plan (xs (x3 + 1).toNatClampNeg) (xs (x3 + 2).toNatClampNeg) (xs (x3 + 3).toNatClampNeg) _ e12) ?_
  refine z_lcmp cx dL_law_667 ?_
  refine z_if_eq (tgt := 1628) cx (by decide) dL_law_668 (fun c13 => ?_) (fun c13 => ?_)
  · have h := g_t c13 h
    exact q_weak (z_wk_s (z_wk_s (z_wk_s (z_wk_s (z_wk_0))))) (t_L_law_1628 n xs nx cx lx k18 hk18 x3 S11 h)
  · have h := g_f c13 h
    refine z_iconst (v := 0) cx (by decide +kernel) dL_law_671 ?_
    exact absurd (g_some h).1 (by decide)
def f_L_law_673 (n : Nat) (xs : Nat → Int32) (nx : Nat) (k18 : Int32 → z_Stt → Option (Bool × z_Stt)) (x3 : Int32) (S : z_Stt) : Option (Bool × z_Stt) :=
  g_bd (f_X10_rung S) fun v1 S2 =>
  g_bd (f_X11_rung S2) fun v4 S5 =>
  if v1 = v4 then
    f_L_law_1628 n xs nx k18 x3 S5
  else
    some (false, S5)
set_option maxHeartbeats 4000000 in
set_option maxRecDepth 100000 in
theorem t_L_law_673 {g : z_G} {K : z_K} (n : Nat) (xs : Nat → Int32) (nx : Nat) {S' : z_Stt} (cx : z_C g M_L_law 1000 K) {b : Nat} (lx : z_LK K b nx xs) (k18 : Int32 → z_Stt → Option (Bool × z_Stt)) (hk18 : ∀ (x3 : Int32) (S : z_Stt), k18 x3 S = some (true, S') → z_At g M_L_law K 18 [some (.ref b), some (.ref (z_ad g 0)), some (.ref (z_ad g 48)), some (.int x3)] [] (hp g S)) (x3 : Int32) (S : z_Stt) (h : f_L_law_673 n xs nx k18 x3 S = some (true, S')) : z_At g M_L_law K 673 [some (.ref b), some (.ref (z_ad g 0)), some (.ref (z_ad g 48)), some (.int x3)] [] (hp g S) := by
  unfold f_L_law_673 at h
  refine z_aload_n cx rfl rfl dL_law_673 ?_
  obtain ⟨v1, S2, e3, h⟩ := g_bd_ex h
  refine q_cvi (As := []) cx mo_X10_rung mv_X10_rung z_cl10 rfl tb_707 (by decide) rfl (by decide) rfl rfl (Nat.le_of_ble_eq_true rfl) dL_law_674 (c_X10_rung  _ e3) ?_
  refine z_aload_n cx rfl rfl dL_law_677 ?_
  obtain ⟨v4, S5, e6, h⟩ := g_bd_ex h
  refine q_cvi (As := []) cx mo_X11_rung mv_X11_rung z_cl11 rfl tb_712 (by decide) rfl (by decide) rfl rfl (Nat.le_of_ble_eq_true rfl) dL_law_678 (c_X11_rung  _ e6) ?_
  refine z_icmp_eq (tgt := 1628) cx (by decide) dL_law_681 (fun c7 => ?_) (fun c7 => ?_)
  · have h := g_t c7 h
    exact q_weak (z_wk_s (z_wk_s (z_wk_s (z_wk_s (z_wk_0))))) (t_L_law_1628 n xs nx cx lx k18 hk18 x3 S5 h)
  · have h := g_f c7 h
    refine z_iconst (v := 0) cx (by decide +kernel) dL_law_684 ?_
    exact absurd (g_some h).1 (by decide)
def f_L_law_686 (n : Nat) (xs : Nat → Int32) (nx : Nat) (k18 : Int32 → z_Stt → Option (Bool × z_Stt)) (x3 : Int32) (S : z_Stt) : Option (Bool × z_Stt) :=
  if ¬ (x3 + 1 < 0 ∨ nx ≤ (x3 + 1).toNatClampNeg) then
    if ¬ (x3 + 2 < 0 ∨ nx ≤ (x3 + 2).toNatClampNeg) then
      if ¬ (x3 + 3 < 0 ∨ nx ≤ (x3 + 3).toNatClampNeg) then
        g_bd (f_X10_two n (xs (x3 + 1).toNatClampNeg) (xs (x3 + 2).toNatClampNeg) (xs (x3 + 3).toNatClampNeg) S) fun v4 S5 =>
        if ¬ (x3 + 1 < 0 ∨ nx ≤ (x3 + 1).toNatClampNeg) then
          if ¬ (x3 + 2 < 0 ∨ nx ≤ (x3 + 2).toNatClampNeg) then
            if ¬ (x3 + 3 < 0 ∨ nx ≤ (x3 + 3).toNatClampNeg) then
              g_bd (f_X11_two n (xs (x3 + 1).toNatClampNeg) (xs (x3 + 2).toNatClampNeg) (xs (x3 + 3).toNatClampNeg) S5) fun v10 S11 =>
              if lg_cmp v4 v10 = 0 then
                f_L_law_1628 n xs nx k18 x3 S11
              else
                some (false, S11)
            else none
          else none
        else none
      else none
    else none
  else none
set_option maxHeartbeats 4000000 in
set_option maxRecDepth 100000 in
theorem t_L_law_686 {g : z_G} {K : z_K} (n : Nat) (xs : Nat → Int32) (nx : Nat) {S' : z_Stt} (cx : z_C g M_L_law 1000 K) {b : Nat} (lx : z_LK K b nx xs) (k18 : Int32 → z_Stt → Option (Bool × z_Stt)) (hk18 : ∀ (x3 : Int32) (S : z_Stt), k18 x3 S = some (true, S') → z_At g M_L_law K 18 [some (.ref b), some (.ref (z_ad g 0)), some (.ref (z_ad g 48)), some (.int x3)] [] (hp g S)) (x3 : Int32) (S : z_Stt) (h : f_L_law_686 n xs nx k18 x3 S = some (true, S')) : z_At g M_L_law K 686 [some (.ref b), some (.ref (z_ad g 0)), some (.ref (z_ad g 48)), some (.int x3)] [] (hp g S) := by
  unfold f_L_law_686 at h
  refine z_aload_n cx rfl rfl dL_law_686 ?_
  refine z_aload_n cx rfl rfl dL_law_687 ?_
  refine z_iload_n cx rfl rfl dL_law_688 ?_
  refine z_iconst (v := 1) cx (by decide +kernel) dL_law_689 ?_
  refine z_iadd cx dL_law_690 ?_
  obtain ⟨c1, h⟩ := g_if h
  refine z_sld cx lx c1 dL_law_691 ?_
  refine z_aload_n cx rfl rfl dL_law_692 ?_
  refine z_iload_n cx rfl rfl dL_law_693 ?_
  refine z_iconst (v := 2) cx (by decide +kernel) dL_law_694 ?_
  refine z_iadd cx dL_law_695 ?_
  obtain ⟨c2, h⟩ := g_if h
  refine z_sld cx lx c2 dL_law_696 ?_
  refine z_aload_n cx rfl rfl dL_law_697 ?_
  refine z_iload_n cx rfl rfl dL_law_698 ?_
  refine z_iconst (v := 3) cx (by decide +kernel) dL_law_699 ?_
  refine z_iadd cx dL_law_700 ?_
  obtain ⟨c3, h⟩ := g_if h
  refine z_sld cx lx c3 dL_law_701 ?_
  obtain ⟨v4, S5, e6, h⟩ := g_bd_ex h
  refine q_cvl (As := [.int (xs (x3 + 1).toNatClampNeg), .int (xs (x3 + 2).toNatClampNeg), .int (xs (x3 + 3).toNatClampNeg)]) cx mo_X10_two mv_X10_two z_cl10 rfl tb_716 (by decide) rfl (by decide) rfl rfl (Nat.le_of_ble_eq_true rfl) dL_law_702 (c_X10_two (xs (x3 + 1).toNatClampNeg) (xs (x3 + 2).toNatClampNeg) (xs (x3 + 3).toNatClampNeg) _ e6) ?_
  refine z_aload_n cx rfl rfl dL_law_705 ?_
  refine z_aload_n cx rfl rfl dL_law_706 ?_
  refine z_iload_n cx rfl rfl dL_law_707 ?_
  refine z_iconst (v := 1) cx (by decide +kernel) dL_law_708 ?_
  refine z_iadd cx dL_law_709 ?_
  obtain ⟨c7, h⟩ := g_if h
  refine z_sld cx lx c7 dL_law_710 ?_
  refine z_aload_n cx rfl rfl dL_law_711 ?_
  refine z_iload_n cx rfl rfl dL_law_712 ?_
  refine z_iconst (v := 2) cx (by decide +kernel) dL_law_713 ?_
  refine z_iadd cx dL_law_714 ?_
  obtain ⟨c8, h⟩ := g_if h
  refine z_sld cx lx c8 dL_law_715 ?_
  refine z_aload_n cx rfl rfl dL_law_716 ?_
  refine z_iload_n cx rfl rfl dL_law_717 ?_
  refine z_iconst (v := 3) cx (by decide +kernel) dL_law_718 ?_
  refine z_iadd cx dL_law_719 ?_
  obtain ⟨c9, h⟩ := g_if h
  refine z_sld cx lx c9 dL_law_720 ?_
  obtain ⟨v10, S11, e12, h⟩ := g_bd_ex h
  refine q_cvl (As := [.int (xs (x3 + 1).toNatClampNeg), .int (xs (x3 + 2).toNatClampNeg), .int (xs (x3 + 3).toNatClampNeg)]) cx mo_X11_two mv_X11_two z_cl11 rfl tb_720 (by decide) rfl (by decide) rfl rfl (Nat.le_of_ble_eq_true rfl) dL_law_721 (c_X11_two (xs (x3 + 1).toNatClampNeg) (xs (x3 + 2).toNatClampNeg) (xs (x3 + 3).toNatClampNeg) _ e12) ?_
  refine z_lcmp cx dL_law_724 ?_
  refine z_if_eq (tgt := 1628) cx (by decide) dL_law_725 (fun c13 => ?_) (fun c13 => ?_)
  · have h := g_t c13 h
    exact q_weak (z_wk_s (z_wk_s (z_wk_s (z_wk_s (z_wk_0))))) (t_L_law_1628 n xs nx cx lx k18 hk18 x3 S11 h)
  · have h := g_f c13 h
    refine z_iconst (v := 0) cx (by decide +kernel) dL_law_728 ?_
    exact absurd (g_some h).1 (by decide)
def f_L_law_730 (n : Nat) (xs : Nat → Int32) (nx : Nat) (k18 : Int32 → z_Stt → Option (Bool × z_Stt)) (x3 : Int32) (S : z_Stt) : Option (Bool × z_Stt) :=
  if ¬ (x3 + 1 < 0 ∨ nx ≤ (x3 + 1).toNatClampNeg) then
    if ¬ (x3 + 2 < 0 ∨ nx ≤ (x3 + 2).toNatClampNeg) then
      if ¬ (x3 + 3 < 0 ∨ nx ≤ (x3 + 3).toNatClampNeg) then
        g_bd (f_X10_shortest n (xs (x3 + 1).toNatClampNeg) (xs (x3 + 2).toNatClampNeg) (xs (x3 + 3).toNatClampNeg) S) fun v4 S5 =>
        if ¬ (x3 + 1 < 0 ∨ nx ≤ (x3 + 1).toNatClampNeg) then
          if ¬ (x3 + 2 < 0 ∨ nx ≤ (x3 + 2).toNatClampNeg) then
            if ¬ (x3 + 3 < 0 ∨ nx ≤ (x3 + 3).toNatClampNeg) then
              g_bd (f_X11_shortest n (xs (x3 + 1).toNatClampNeg) (xs (x3 + 2).toNatClampNeg) (xs (x3 + 3).toNatClampNeg) S5) fun v10 S11 =>
              if v4 = v10 then
                f_L_law_1628 n xs nx k18 x3 S11
              else
                some (false, S11)
            else none
          else none
        else none
      else none
    else none
  else none
set_option maxHeartbeats 4000000 in
set_option maxRecDepth 100000 in
theorem t_L_law_730 {g : z_G} {K : z_K} (n : Nat) (xs : Nat → Int32) (nx : Nat) {S' : z_Stt} (cx : z_C g M_L_law 1000 K) {b : Nat} (lx : z_LK K b nx xs) (k18 : Int32 → z_Stt → Option (Bool × z_Stt)) (hk18 : ∀ (x3 : Int32) (S : z_Stt), k18 x3 S = some (true, S') → z_At g M_L_law K 18 [some (.ref b), some (.ref (z_ad g 0)), some (.ref (z_ad g 48)), some (.int x3)] [] (hp g S)) (x3 : Int32) (S : z_Stt) (h : f_L_law_730 n xs nx k18 x3 S = some (true, S')) : z_At g M_L_law K 730 [some (.ref b), some (.ref (z_ad g 0)), some (.ref (z_ad g 48)), some (.int x3)] [] (hp g S) := by
  unfold f_L_law_730 at h
  refine z_aload_n cx rfl rfl dL_law_730 ?_
  refine z_aload_n cx rfl rfl dL_law_731 ?_
  refine z_iload_n cx rfl rfl dL_law_732 ?_
  refine z_iconst (v := 1) cx (by decide +kernel) dL_law_733 ?_
  refine z_iadd cx dL_law_734 ?_
  obtain ⟨c1, h⟩ := g_if h
  refine z_sld cx lx c1 dL_law_735 ?_
  refine z_aload_n cx rfl rfl dL_law_736 ?_
  refine z_iload_n cx rfl rfl dL_law_737 ?_
  refine z_iconst (v := 2) cx (by decide +kernel) dL_law_738 ?_
  refine z_iadd cx dL_law_739 ?_
  obtain ⟨c2, h⟩ := g_if h
  refine z_sld cx lx c2 dL_law_740 ?_
  refine z_aload_n cx rfl rfl dL_law_741 ?_
  refine z_iload_n cx rfl rfl dL_law_742 ?_
  refine z_iconst (v := 3) cx (by decide +kernel) dL_law_743 ?_
  refine z_iadd cx dL_law_744 ?_
  obtain ⟨c3, h⟩ := g_if h
  refine z_sld cx lx c3 dL_law_745 ?_
  obtain ⟨v4, S5, e6, h⟩ := g_bd_ex h
  refine q_cvi (As := [.int (xs (x3 + 1).toNatClampNeg), .int (xs (x3 + 2).toNatClampNeg), .int (xs (x3 + 3).toNatClampNeg)]) cx mo_X10_shortest mv_X10_shortest z_cl10 rfl tb_725 (by decide) rfl (by decide) rfl rfl (Nat.le_of_ble_eq_true rfl) dL_law_746 (c_X10_shortest (xs (x3 + 1).toNatClampNeg) (xs (x3 + 2).toNatClampNeg) (xs (x3 + 3).toNatClampNeg) _ e6) ?_
  refine z_aload_n cx rfl rfl dL_law_749 ?_
  refine z_aload_n cx rfl rfl dL_law_750 ?_
  refine z_iload_n cx rfl rfl dL_law_751 ?_
  refine z_iconst (v := 1) cx (by decide +kernel) dL_law_752 ?_
  refine z_iadd cx dL_law_753 ?_
  obtain ⟨c7, h⟩ := g_if h
  refine z_sld cx lx c7 dL_law_754 ?_
  refine z_aload_n cx rfl rfl dL_law_755 ?_
  refine z_iload_n cx rfl rfl dL_law_756 ?_
  refine z_iconst (v := 2) cx (by decide +kernel) dL_law_757 ?_
  refine z_iadd cx dL_law_758 ?_
  obtain ⟨c8, h⟩ := g_if h
  refine z_sld cx lx c8 dL_law_759 ?_
  refine z_aload_n cx rfl rfl dL_law_760 ?_
  refine z_iload_n cx rfl rfl dL_law_761 ?_
  refine z_iconst (v := 3) cx (by decide +kernel) dL_law_762 ?_
  refine z_iadd cx dL_law_763 ?_
  obtain ⟨c9, h⟩ := g_if h
  refine z_sld cx lx c9 dL_law_764 ?_
  obtain ⟨v10, S11, e12, h⟩ := g_bd_ex h
  refine q_cvi (As := [.int (xs (x3 + 1).toNatClampNeg), .int (xs (x3 + 2).toNatClampNeg), .int (xs (x3 + 3).toNatClampNeg)]) cx mo_X11_shortest mv_X11_shortest z_cl11 rfl tb_760 (by decide) rfl (by decide) rfl rfl (Nat.le_of_ble_eq_true rfl) dL_law_765 (c_X11_shortest (xs (x3 + 1).toNatClampNeg) (xs (x3 + 2).toNatClampNeg) (xs (x3 + 3).toNatClampNeg) _ e12) ?_
  refine z_icmp_eq (tgt := 1628) cx (by decide) dL_law_768 (fun c13 => ?_) (fun c13 => ?_)
  · have h := g_t c13 h
    exact q_weak (z_wk_s (z_wk_s (z_wk_s (z_wk_s (z_wk_0))))) (t_L_law_1628 n xs nx cx lx k18 hk18 x3 S11 h)
  · have h := g_f c13 h
    refine z_iconst (v := 0) cx (by decide +kernel) dL_law_771 ?_
    exact absurd (g_some h).1 (by decide)
def f_L_law_773 (n : Nat) (xs : Nat → Int32) (nx : Nat) (k18 : Int32 → z_Stt → Option (Bool × z_Stt)) (x3 : Int32) (S : z_Stt) : Option (Bool × z_Stt) :=
  if ¬ (x3 + 1 < 0 ∨ nx ≤ (x3 + 1).toNatClampNeg) then
    if ¬ (x3 + 2 < 0 ∨ nx ≤ (x3 + 2).toNatClampNeg) then
      g_bd (f_X10_length n (xs (x3 + 1).toNatClampNeg) (xs (x3 + 2).toNatClampNeg) S) fun v3 S4 =>
      if ¬ (x3 + 1 < 0 ∨ nx ≤ (x3 + 1).toNatClampNeg) then
        if ¬ (x3 + 2 < 0 ∨ nx ≤ (x3 + 2).toNatClampNeg) then
          g_bd (f_X11_length n (xs (x3 + 1).toNatClampNeg) (xs (x3 + 2).toNatClampNeg) S4) fun v8 S9 =>
          if v3 = v8 then
            f_L_law_1628 n xs nx k18 x3 S9
          else
            some (false, S9)
        else none
      else none
    else none
  else none
set_option maxHeartbeats 4000000 in
set_option maxRecDepth 100000 in
theorem t_L_law_773 {g : z_G} {K : z_K} (n : Nat) (xs : Nat → Int32) (nx : Nat) {S' : z_Stt} (cx : z_C g M_L_law 1000 K) {b : Nat} (lx : z_LK K b nx xs) (k18 : Int32 → z_Stt → Option (Bool × z_Stt)) (hk18 : ∀ (x3 : Int32) (S : z_Stt), k18 x3 S = some (true, S') → z_At g M_L_law K 18 [some (.ref b), some (.ref (z_ad g 0)), some (.ref (z_ad g 48)), some (.int x3)] [] (hp g S)) (x3 : Int32) (S : z_Stt) (h : f_L_law_773 n xs nx k18 x3 S = some (true, S')) : z_At g M_L_law K 773 [some (.ref b), some (.ref (z_ad g 0)), some (.ref (z_ad g 48)), some (.int x3)] [] (hp g S) := by
  unfold f_L_law_773 at h
  refine z_aload_n cx rfl rfl dL_law_773 ?_
  refine z_aload_n cx rfl rfl dL_law_774 ?_
  refine z_iload_n cx rfl rfl dL_law_775 ?_
  refine z_iconst (v := 1) cx (by decide +kernel) dL_law_776 ?_
  refine z_iadd cx dL_law_777 ?_
  obtain ⟨c1, h⟩ := g_if h
  refine z_sld cx lx c1 dL_law_778 ?_
  refine z_aload_n cx rfl rfl dL_law_779 ?_
  refine z_iload_n cx rfl rfl dL_law_780 ?_
  refine z_iconst (v := 2) cx (by decide +kernel) dL_law_781 ?_
  refine z_iadd cx dL_law_782 ?_
  obtain ⟨c2, h⟩ := g_if h
  refine z_sld cx lx c2 dL_law_783 ?_
  obtain ⟨v3, S4, e5, h⟩ := g_bd_ex h
  refine q_cvi (As := [.int (xs (x3 + 1).toNatClampNeg), .int (xs (x3 + 2).toNatClampNeg)]) cx mo_X10_length mv_X10_length z_cl10 rfl tb_778 (by decide) rfl (by decide) rfl rfl (Nat.le_of_ble_eq_true rfl) dL_law_784 (c_X10_length (xs (x3 + 1).toNatClampNeg) (xs (x3 + 2).toNatClampNeg) _ e5) ?_
  refine z_aload_n cx rfl rfl dL_law_787 ?_
  refine z_aload_n cx rfl rfl dL_law_788 ?_
  refine z_iload_n cx rfl rfl dL_law_789 ?_
  refine z_iconst (v := 1) cx (by decide +kernel) dL_law_790 ?_
  refine z_iadd cx dL_law_791 ?_
  obtain ⟨c6, h⟩ := g_if h
  refine z_sld cx lx c6 dL_law_792 ?_
  refine z_aload_n cx rfl rfl dL_law_793 ?_
  refine z_iload_n cx rfl rfl dL_law_794 ?_
  refine z_iconst (v := 2) cx (by decide +kernel) dL_law_795 ?_
  refine z_iadd cx dL_law_796 ?_
  obtain ⟨c7, h⟩ := g_if h
  refine z_sld cx lx c7 dL_law_797 ?_
  obtain ⟨v8, S9, e10, h⟩ := g_bd_ex h
  refine q_cvi (As := [.int (xs (x3 + 1).toNatClampNeg), .int (xs (x3 + 2).toNatClampNeg)]) cx mo_X11_length mv_X11_length z_cl11 rfl tb_799 (by decide) rfl (by decide) rfl rfl (Nat.le_of_ble_eq_true rfl) dL_law_798 (c_X11_length (xs (x3 + 1).toNatClampNeg) (xs (x3 + 2).toNatClampNeg) _ e10) ?_
  refine z_icmp_eq (tgt := 1628) cx (by decide) dL_law_801 (fun c11 => ?_) (fun c11 => ?_)
  · have h := g_t c11 h
    exact q_weak (z_wk_s (z_wk_s (z_wk_s (z_wk_s (z_wk_0))))) (t_L_law_1628 n xs nx cx lx k18 hk18 x3 S9 h)
  · have h := g_f c11 h
    refine z_iconst (v := 0) cx (by decide +kernel) dL_law_804 ?_
    exact absurd (g_some h).1 (by decide)
def f_L_law_806 (n : Nat) (xs : Nat → Int32) (nx : Nat) (k18 : Int32 → z_Stt → Option (Bool × z_Stt)) (x3 : Int32) (S : z_Stt) : Option (Bool × z_Stt) :=
  if ¬ (x3 + 1 < 0 ∨ nx ≤ (x3 + 1).toNatClampNeg) then
    if ¬ (x3 + 2 < 0 ∨ nx ≤ (x3 + 2).toNatClampNeg) then
      g_bd (f_X10_list n (xs (x3 + 1).toNatClampNeg) (xs (x3 + 2).toNatClampNeg) S) fun v3 S4 =>
      if ¬ (x3 + 1 < 0 ∨ nx ≤ (x3 + 1).toNatClampNeg) then
        if ¬ (x3 + 2 < 0 ∨ nx ≤ (x3 + 2).toNatClampNeg) then
          g_bd (f_X11_list n (xs (x3 + 1).toNatClampNeg) (xs (x3 + 2).toNatClampNeg) S4) fun v8 S9 =>
          if lg_cmp v3 v8 = 0 then
            f_L_law_1628 n xs nx k18 x3 S9
          else
            some (false, S9)
        else none
      else none
    else none
  else none
set_option maxHeartbeats 4000000 in
set_option maxRecDepth 100000 in
theorem t_L_law_806 {g : z_G} {K : z_K} (n : Nat) (xs : Nat → Int32) (nx : Nat) {S' : z_Stt} (cx : z_C g M_L_law 1000 K) {b : Nat} (lx : z_LK K b nx xs) (k18 : Int32 → z_Stt → Option (Bool × z_Stt)) (hk18 : ∀ (x3 : Int32) (S : z_Stt), k18 x3 S = some (true, S') → z_At g M_L_law K 18 [some (.ref b), some (.ref (z_ad g 0)), some (.ref (z_ad g 48)), some (.int x3)] [] (hp g S)) (x3 : Int32) (S : z_Stt) (h : f_L_law_806 n xs nx k18 x3 S = some (true, S')) : z_At g M_L_law K 806 [some (.ref b), some (.ref (z_ad g 0)), some (.ref (z_ad g 48)), some (.int x3)] [] (hp g S) := by
  unfold f_L_law_806 at h
  refine z_aload_n cx rfl rfl dL_law_806 ?_
  refine z_aload_n cx rfl rfl dL_law_807 ?_
  refine z_iload_n cx rfl rfl dL_law_808 ?_
  refine z_iconst (v := 1) cx (by decide +kernel) dL_law_809 ?_
  refine z_iadd cx dL_law_810 ?_
  obtain ⟨c1, h⟩ := g_if h
  refine z_sld cx lx c1 dL_law_811 ?_
  refine z_aload_n cx rfl rfl dL_law_812 ?_
  refine z_iload_n cx rfl rfl dL_law_813 ?_
  refine z_iconst (v := 2) cx (by decide +kernel) dL_law_814 ?_
  refine z_iadd cx dL_law_815 ?_
  obtain ⟨c2, h⟩ := g_if h
  refine z_sld cx lx c2 dL_law_816 ?_
  obtain ⟨v3, S4, e5, h⟩ := g_bd_ex h
  refine q_cvl (As := [.int (xs (x3 + 1).toNatClampNeg), .int (xs (x3 + 2).toNatClampNeg)]) cx mo_X10_list mv_X10_list z_cl10 rfl tb_807 (by decide) rfl (by decide) rfl rfl (Nat.le_of_ble_eq_true rfl) dL_law_817 (c_X10_list (xs (x3 + 1).toNatClampNeg) (xs (x3 + 2).toNatClampNeg) _ e5) ?_
  refine z_aload_n cx rfl rfl dL_law_820 ?_
  refine z_aload_n cx rfl rfl dL_law_821 ?_
  refine z_iload_n cx rfl rfl dL_law_822 ?_
  refine z_iconst (v := 1) cx (by decide +kernel) dL_law_823 ?_
  refine z_iadd cx dL_law_824 ?_
  obtain ⟨c6, h⟩ := g_if h
  refine z_sld cx lx c6 dL_law_825 ?_
  refine z_aload_n cx rfl rfl dL_law_826 ?_
  refine z_iload_n cx rfl rfl dL_law_827 ?_
  refine z_iconst (v := 2) cx (by decide +kernel) dL_law_828 ?_
  refine z_iadd cx dL_law_829 ?_
  obtain ⟨c7, h⟩ := g_if h
  refine z_sld cx lx c7 dL_law_830 ?_
  obtain ⟨v8, S9, e10, h⟩ := g_bd_ex h
  refine q_cvl (As := [.int (xs (x3 + 1).toNatClampNeg), .int (xs (x3 + 2).toNatClampNeg)]) cx mo_X11_list mv_X11_list z_cl11 rfl tb_811 (by decide) rfl (by decide) rfl rfl (Nat.le_of_ble_eq_true rfl) dL_law_831 (c_X11_list (xs (x3 + 1).toNatClampNeg) (xs (x3 + 2).toNatClampNeg) _ e10) ?_
  refine z_lcmp cx dL_law_834 ?_
  refine z_if_eq (tgt := 1628) cx (by decide) dL_law_835 (fun c11 => ?_) (fun c11 => ?_)
  · have h := g_t c11 h
    exact q_weak (z_wk_s (z_wk_s (z_wk_s (z_wk_s (z_wk_0))))) (t_L_law_1628 n xs nx cx lx k18 hk18 x3 S9 h)
  · have h := g_f c11 h
    refine z_iconst (v := 0) cx (by decide +kernel) dL_law_838 ?_
    exact absurd (g_some h).1 (by decide)
def f_L_law_840 (n : Nat) (xs : Nat → Int32) (nx : Nat) (k18 : Int32 → z_Stt → Option (Bool × z_Stt)) (x3 : Int32) (S : z_Stt) : Option (Bool × z_Stt) :=
  if ¬ (x3 + 1 < 0 ∨ nx ≤ (x3 + 1).toNatClampNeg) then
    if ¬ (x3 + 2 < 0 ∨ nx ≤ (x3 + 2).toNatClampNeg) then
      if ¬ (x3 + 3 < 0 ∨ nx ≤ (x3 + 3).toNatClampNeg) then
        g_bd (f_X10_ever n (xs (x3 + 1).toNatClampNeg) (xs (x3 + 2).toNatClampNeg) (xs (x3 + 3).toNatClampNeg) S) fun v4 S5 =>
        if ¬ (x3 + 1 < 0 ∨ nx ≤ (x3 + 1).toNatClampNeg) then
          if ¬ (x3 + 2 < 0 ∨ nx ≤ (x3 + 2).toNatClampNeg) then
            if ¬ (x3 + 3 < 0 ∨ nx ≤ (x3 + 3).toNatClampNeg) then
              g_bd (f_X11_ever n (xs (x3 + 1).toNatClampNeg) (xs (x3 + 2).toNatClampNeg) (xs (x3 + 3).toNatClampNeg) S5) fun v10 S11 =>
              if lg_cmp v4 v10 = 0 then
                f_L_law_1628 n xs nx k18 x3 S11
              else
                some (false, S11)
            else none
          else none
        else none
      else none
    else none
  else none
set_option maxHeartbeats 4000000 in
set_option maxRecDepth 100000 in
theorem t_L_law_840 {g : z_G} {K : z_K} (n : Nat) (xs : Nat → Int32) (nx : Nat) {S' : z_Stt} (cx : z_C g M_L_law 1000 K) {b : Nat} (lx : z_LK K b nx xs) (k18 : Int32 → z_Stt → Option (Bool × z_Stt)) (hk18 : ∀ (x3 : Int32) (S : z_Stt), k18 x3 S = some (true, S') → z_At g M_L_law K 18 [some (.ref b), some (.ref (z_ad g 0)), some (.ref (z_ad g 48)), some (.int x3)] [] (hp g S)) (x3 : Int32) (S : z_Stt) (h : f_L_law_840 n xs nx k18 x3 S = some (true, S')) : z_At g M_L_law K 840 [some (.ref b), some (.ref (z_ad g 0)), some (.ref (z_ad g 48)), some (.int x3)] [] (hp g S) := by
  unfold f_L_law_840 at h
  refine z_aload_n cx rfl rfl dL_law_840 ?_
  refine z_aload_n cx rfl rfl dL_law_841 ?_
  refine z_iload_n cx rfl rfl dL_law_842 ?_
  refine z_iconst (v := 1) cx (by decide +kernel) dL_law_843 ?_
  refine z_iadd cx dL_law_844 ?_
  obtain ⟨c1, h⟩ := g_if h
  refine z_sld cx lx c1 dL_law_845 ?_
  refine z_aload_n cx rfl rfl dL_law_846 ?_
  refine z_iload_n cx rfl rfl dL_law_847 ?_
  refine z_iconst (v := 2) cx (by decide +kernel) dL_law_848 ?_
  refine z_iadd cx dL_law_849 ?_
  obtain ⟨c2, h⟩ := g_if h
  refine z_sld cx lx c2 dL_law_850 ?_
  refine z_aload_n cx rfl rfl dL_law_851 ?_
  refine z_iload_n cx rfl rfl dL_law_852 ?_
  refine z_iconst (v := 3) cx (by decide +kernel) dL_law_853 ?_
  refine z_iadd cx dL_law_854 ?_
  obtain ⟨c3, h⟩ := g_if h
  refine z_sld cx lx c3 dL_law_855 ?_
  obtain ⟨v4, S5, e6, h⟩ := g_bd_ex h
  refine q_cvl (As := [.int (xs (x3 + 1).toNatClampNeg), .int (xs (x3 + 2).toNatClampNeg), .int (xs (x3 + 3).toNatClampNeg)]) cx mo_X10_ever mv_X10_ever z_cl10 rfl tb_815 (by decide) rfl (by decide) rfl rfl (Nat.le_of_ble_eq_true rfl) dL_law_856 (c_X10_ever (xs (x3 + 1).toNatClampNeg) (xs (x3 + 2).toNatClampNeg) (xs (x3 + 3).toNatClampNeg) _ e6) ?_
  refine z_aload_n cx rfl rfl dL_law_859 ?_
  refine z_aload_n cx rfl rfl dL_law_860 ?_
  refine z_iload_n cx rfl rfl dL_law_861 ?_
  refine z_iconst (v := 1) cx (by decide +kernel) dL_law_862 ?_
  refine z_iadd cx dL_law_863 ?_
  obtain ⟨c7, h⟩ := g_if h
  refine z_sld cx lx c7 dL_law_864 ?_
  refine z_aload_n cx rfl rfl dL_law_865 ?_
  refine z_iload_n cx rfl rfl dL_law_866 ?_
  refine z_iconst (v := 2) cx (by decide +kernel) dL_law_867 ?_
  refine z_iadd cx dL_law_868 ?_
  obtain ⟨c8, h⟩ := g_if h
  refine z_sld cx lx c8 dL_law_869 ?_
  refine z_aload_n cx rfl rfl dL_law_870 ?_
  refine z_iload_n cx rfl rfl dL_law_871 ?_
  refine z_iconst (v := 3) cx (by decide +kernel) dL_law_872 ?_
  refine z_iadd cx dL_law_873 ?_
  obtain ⟨c9, h⟩ := g_if h
  refine z_sld cx lx c9 dL_law_874 ?_
  obtain ⟨v10, S11, e12, h⟩ := g_bd_ex h
  refine q_cvl (As := [.int (xs (x3 + 1).toNatClampNeg), .int (xs (x3 + 2).toNatClampNeg), .int (xs (x3 + 3).toNatClampNeg)]) cx mo_X11_ever mv_X11_ever z_cl11 rfl tb_819 (by decide) rfl (by decide) rfl rfl (Nat.le_of_ble_eq_true rfl) dL_law_875 (c_X11_ever (xs (x3 + 1).toNatClampNeg) (xs (x3 + 2).toNatClampNeg) (xs (x3 + 3).toNatClampNeg) _ e12) ?_
  refine z_lcmp cx dL_law_878 ?_
  refine z_if_eq (tgt := 1628) cx (by decide) dL_law_879 (fun c13 => ?_) (fun c13 => ?_)
  · have h := g_t c13 h
    exact q_weak (z_wk_s (z_wk_s (z_wk_s (z_wk_s (z_wk_0))))) (t_L_law_1628 n xs nx cx lx k18 hk18 x3 S11 h)
  · have h := g_f c13 h
    refine z_iconst (v := 0) cx (by decide +kernel) dL_law_882 ?_
    exact absurd (g_some h).1 (by decide)
def f_L_law_884 (n : Nat) (xs : Nat → Int32) (nx : Nat) (k18 : Int32 → z_Stt → Option (Bool × z_Stt)) (x3 : Int32) (S : z_Stt) : Option (Bool × z_Stt) :=
  if ¬ (x3 + 1 < 0 ∨ nx ≤ (x3 + 1).toNatClampNeg) then
    if ¬ (x3 + 2 < 0 ∨ nx ≤ (x3 + 2).toNatClampNeg) then
      if ¬ (x3 + 3 < 0 ∨ nx ≤ (x3 + 3).toNatClampNeg) then
        g_bd (f_X10_camera n (xs (x3 + 1).toNatClampNeg) (xs (x3 + 2).toNatClampNeg) (xs (x3 + 3).toNatClampNeg) S) fun v4 S5 =>
        if ¬ (x3 + 1 < 0 ∨ nx ≤ (x3 + 1).toNatClampNeg) then
          if ¬ (x3 + 2 < 0 ∨ nx ≤ (x3 + 2).toNatClampNeg) then
            if ¬ (x3 + 3 < 0 ∨ nx ≤ (x3 + 3).toNatClampNeg) then
              g_bd (f_X11_camera n (xs (x3 + 1).toNatClampNeg) (xs (x3 + 2).toNatClampNeg) (xs (x3 + 3).toNatClampNeg) S5) fun v10 S11 =>
              if lg_cmp v4 v10 = 0 then
                f_L_law_1628 n xs nx k18 x3 S11
              else
                some (false, S11)
            else none
          else none
        else none
      else none
    else none
  else none
set_option maxHeartbeats 4000000 in
set_option maxRecDepth 100000 in
theorem t_L_law_884 {g : z_G} {K : z_K} (n : Nat) (xs : Nat → Int32) (nx : Nat) {S' : z_Stt} (cx : z_C g M_L_law 1000 K) {b : Nat} (lx : z_LK K b nx xs) (k18 : Int32 → z_Stt → Option (Bool × z_Stt)) (hk18 : ∀ (x3 : Int32) (S : z_Stt), k18 x3 S = some (true, S') → z_At g M_L_law K 18 [some (.ref b), some (.ref (z_ad g 0)), some (.ref (z_ad g 48)), some (.int x3)] [] (hp g S)) (x3 : Int32) (S : z_Stt) (h : f_L_law_884 n xs nx k18 x3 S = some (true, S')) : z_At g M_L_law K 884 [some (.ref b), some (.ref (z_ad g 0)), some (.ref (z_ad g 48)), some (.int x3)] [] (hp g S) := by
  unfold f_L_law_884 at h
  refine z_aload_n cx rfl rfl dL_law_884 ?_
  refine z_aload_n cx rfl rfl dL_law_885 ?_
  refine z_iload_n cx rfl rfl dL_law_886 ?_
  refine z_iconst (v := 1) cx (by decide +kernel) dL_law_887 ?_
  refine z_iadd cx dL_law_888 ?_
  obtain ⟨c1, h⟩ := g_if h
  refine z_sld cx lx c1 dL_law_889 ?_
  refine z_aload_n cx rfl rfl dL_law_890 ?_
  refine z_iload_n cx rfl rfl dL_law_891 ?_
  refine z_iconst (v := 2) cx (by decide +kernel) dL_law_892 ?_
  refine z_iadd cx dL_law_893 ?_
  obtain ⟨c2, h⟩ := g_if h
  refine z_sld cx lx c2 dL_law_894 ?_
  refine z_aload_n cx rfl rfl dL_law_895 ?_
  refine z_iload_n cx rfl rfl dL_law_896 ?_
  refine z_iconst (v := 3) cx (by decide +kernel) dL_law_897 ?_
  refine z_iadd cx dL_law_898 ?_
  obtain ⟨c3, h⟩ := g_if h
  refine z_sld cx lx c3 dL_law_899 ?_
  obtain ⟨v4, S5, e6, h⟩ := g_bd_ex h
  refine q_cvl (As := [.int (xs (x3 + 1).toNatClampNeg), .int (xs (x3 + 2).toNatClampNeg), .int (xs (x3 + 3).toNatClampNeg)]) cx mo_X10_camera mv_X10_camera z_cl10 rfl tb_824 (by decide) rfl (by decide) rfl rfl (Nat.le_of_ble_eq_true rfl) dL_law_900 (c_X10_camera (xs (x3 + 1).toNatClampNeg) (xs (x3 + 2).toNatClampNeg) (xs (x3 + 3).toNatClampNeg) _ e6) ?_
  refine z_aload_n cx rfl rfl dL_law_903 ?_
  refine z_aload_n cx rfl rfl dL_law_904 ?_
  refine z_iload_n cx rfl rfl dL_law_905 ?_
  refine z_iconst (v := 1) cx (by decide +kernel) dL_law_906 ?_
  refine z_iadd cx dL_law_907 ?_
  obtain ⟨c7, h⟩ := g_if h
  refine z_sld cx lx c7 dL_law_908 ?_
  refine z_aload_n cx rfl rfl dL_law_909 ?_
  refine z_iload_n cx rfl rfl dL_law_910 ?_
  refine z_iconst (v := 2) cx (by decide +kernel) dL_law_911 ?_
  refine z_iadd cx dL_law_912 ?_
  obtain ⟨c8, h⟩ := g_if h
  refine z_sld cx lx c8 dL_law_913 ?_
  refine z_aload_n cx rfl rfl dL_law_914 ?_
  refine z_iload_n cx rfl rfl dL_law_915 ?_
  refine z_iconst (v := 3) cx (by decide +kernel) dL_law_916 ?_
  refine z_iadd cx dL_law_917 ?_
  obtain ⟨c9, h⟩ := g_if h
  refine z_sld cx lx c9 dL_law_918 ?_
  obtain ⟨v10, S11, e12, h⟩ := g_bd_ex h
  refine q_cvl (As := [.int (xs (x3 + 1).toNatClampNeg), .int (xs (x3 + 2).toNatClampNeg), .int (xs (x3 + 3).toNatClampNeg)]) cx mo_X11_camera mv_X11_camera z_cl11 rfl tb_837 (by decide) rfl (by decide) rfl rfl (Nat.le_of_ble_eq_true rfl) dL_law_919 (c_X11_camera (xs (x3 + 1).toNatClampNeg) (xs (x3 + 2).toNatClampNeg) (xs (x3 + 3).toNatClampNeg) _ e12) ?_
  refine z_lcmp cx dL_law_922 ?_
  refine z_if_eq (tgt := 1628) cx (by decide) dL_law_923 (fun c13 => ?_) (fun c13 => ?_)
  · have h := g_t c13 h
    exact q_weak (z_wk_s (z_wk_s (z_wk_s (z_wk_s (z_wk_0))))) (t_L_law_1628 n xs nx cx lx k18 hk18 x3 S11 h)
  · have h := g_f c13 h
    refine z_iconst (v := 0) cx (by decide +kernel) dL_law_926 ?_
    exact absurd (g_some h).1 (by decide)
def f_L_law_928 (n : Nat) (xs : Nat → Int32) (nx : Nat) (k18 : Int32 → z_Stt → Option (Bool × z_Stt)) (x3 : Int32) (S : z_Stt) : Option (Bool × z_Stt) :=
  if ¬ (x3 + 1 < 0 ∨ nx ≤ (x3 + 1).toNatClampNeg) then
    if ¬ (x3 + 2 < 0 ∨ nx ≤ (x3 + 2).toNatClampNeg) then
      if ¬ (x3 + 3 < 0 ∨ nx ≤ (x3 + 3).toNatClampNeg) then
        if ¬ (x3 + 4 < 0 ∨ nx ≤ (x3 + 4).toNatClampNeg) then
          g_bd (f_X10_drawn n (xs (x3 + 1).toNatClampNeg) (xs (x3 + 2).toNatClampNeg) (xs (x3 + 3).toNatClampNeg) (xs (x3 + 4).toNatClampNeg) S) fun v5 S6 =>
          if ¬ (x3 + 1 < 0 ∨ nx ≤ (x3 + 1).toNatClampNeg) then
            if ¬ (x3 + 2 < 0 ∨ nx ≤ (x3 + 2).toNatClampNeg) then
              if ¬ (x3 + 3 < 0 ∨ nx ≤ (x3 + 3).toNatClampNeg) then
                if ¬ (x3 + 4 < 0 ∨ nx ≤ (x3 + 4).toNatClampNeg) then
                  g_bd (f_X11_drawn n (xs (x3 + 1).toNatClampNeg) (xs (x3 + 2).toNatClampNeg) (xs (x3 + 3).toNatClampNeg) (xs (x3 + 4).toNatClampNeg) S6) fun v12 S13 =>
                  if v5 = v12 then
                    f_L_law_1628 n xs nx k18 x3 S13
                  else
                    some (false, S13)
                else none
              else none
            else none
          else none
        else none
      else none
    else none
  else none
set_option maxHeartbeats 4000000 in
set_option maxRecDepth 100000 in
theorem t_L_law_928 {g : z_G} {K : z_K} (n : Nat) (xs : Nat → Int32) (nx : Nat) {S' : z_Stt} (cx : z_C g M_L_law 1000 K) {b : Nat} (lx : z_LK K b nx xs) (k18 : Int32 → z_Stt → Option (Bool × z_Stt)) (hk18 : ∀ (x3 : Int32) (S : z_Stt), k18 x3 S = some (true, S') → z_At g M_L_law K 18 [some (.ref b), some (.ref (z_ad g 0)), some (.ref (z_ad g 48)), some (.int x3)] [] (hp g S)) (x3 : Int32) (S : z_Stt) (h : f_L_law_928 n xs nx k18 x3 S = some (true, S')) : z_At g M_L_law K 928 [some (.ref b), some (.ref (z_ad g 0)), some (.ref (z_ad g 48)), some (.int x3)] [] (hp g S) := by
  unfold f_L_law_928 at h
  refine z_aload_n cx rfl rfl dL_law_928 ?_
  refine z_aload_n cx rfl rfl dL_law_929 ?_
  refine z_iload_n cx rfl rfl dL_law_930 ?_
  refine z_iconst (v := 1) cx (by decide +kernel) dL_law_931 ?_
  refine z_iadd cx dL_law_932 ?_
  obtain ⟨c1, h⟩ := g_if h
  refine z_sld cx lx c1 dL_law_933 ?_
  refine z_aload_n cx rfl rfl dL_law_934 ?_
  refine z_iload_n cx rfl rfl dL_law_935 ?_
  refine z_iconst (v := 2) cx (by decide +kernel) dL_law_936 ?_
  refine z_iadd cx dL_law_937 ?_
  obtain ⟨c2, h⟩ := g_if h
  refine z_sld cx lx c2 dL_law_938 ?_
  refine z_aload_n cx rfl rfl dL_law_939 ?_
  refine z_iload_n cx rfl rfl dL_law_940 ?_
  refine z_iconst (v := 3) cx (by decide +kernel) dL_law_941 ?_
  refine z_iadd cx dL_law_942 ?_
  obtain ⟨c3, h⟩ := g_if h
  refine z_sld cx lx c3 dL_law_943 ?_
  refine z_aload_n cx rfl rfl dL_law_944 ?_
  refine z_iload_n cx rfl rfl dL_law_945 ?_
  refine z_iconst (v := 4) cx (by decide +kernel) dL_law_946 ?_
  refine z_iadd cx dL_law_947 ?_
  obtain ⟨c4, h⟩ := g_if h
  refine z_sld cx lx c4 dL_law_948 ?_
  obtain ⟨v5, S6, e7, h⟩ := g_bd_ex h
  refine q_cvi (As := [.int (xs (x3 + 1).toNatClampNeg), .int (xs (x3 + 2).toNatClampNeg), .int (xs (x3 + 3).toNatClampNeg), .int (xs (x3 + 4).toNatClampNeg)]) cx mo_X10_drawn mv_X10_drawn z_cl10 rfl tb_841 (by decide) rfl (by decide) rfl rfl (Nat.le_of_ble_eq_true rfl) dL_law_949 (c_X10_drawn (xs (x3 + 1).toNatClampNeg) (xs (x3 + 2).toNatClampNeg) (xs (x3 + 3).toNatClampNeg) (xs (x3 + 4).toNatClampNeg) _ e7) ?_
  refine z_aload_n cx rfl rfl dL_law_952 ?_
  refine z_aload_n cx rfl rfl dL_law_953 ?_
  refine z_iload_n cx rfl rfl dL_law_954 ?_
  refine z_iconst (v := 1) cx (by decide +kernel) dL_law_955 ?_
  refine z_iadd cx dL_law_956 ?_
  obtain ⟨c8, h⟩ := g_if h
  refine z_sld cx lx c8 dL_law_957 ?_
  refine z_aload_n cx rfl rfl dL_law_958 ?_
  refine z_iload_n cx rfl rfl dL_law_959 ?_
  refine z_iconst (v := 2) cx (by decide +kernel) dL_law_960 ?_
  refine z_iadd cx dL_law_961 ?_
  obtain ⟨c9, h⟩ := g_if h
  refine z_sld cx lx c9 dL_law_962 ?_
  refine z_aload_n cx rfl rfl dL_law_963 ?_
  refine z_iload_n cx rfl rfl dL_law_964 ?_
  refine z_iconst (v := 3) cx (by decide +kernel) dL_law_965 ?_
  refine z_iadd cx dL_law_966 ?_
  obtain ⟨c10, h⟩ := g_if h
  refine z_sld cx lx c10 dL_law_967 ?_
  refine z_aload_n cx rfl rfl dL_law_968 ?_
  refine z_iload_n cx rfl rfl dL_law_969 ?_
  refine z_iconst (v := 4) cx (by decide +kernel) dL_law_970 ?_
  refine z_iadd cx dL_law_971 ?_
  obtain ⟨c11, h⟩ := g_if h
  refine z_sld cx lx c11 dL_law_972 ?_
  obtain ⟨v12, S13, e14, h⟩ := g_bd_ex h
  refine q_cvi (As := [.int (xs (x3 + 1).toNatClampNeg), .int (xs (x3 + 2).toNatClampNeg), .int (xs (x3 + 3).toNatClampNeg), .int (xs (x3 + 4).toNatClampNeg)]) cx mo_X11_drawn mv_X11_drawn z_cl11 rfl tb_868 (by decide) rfl (by decide) rfl rfl (Nat.le_of_ble_eq_true rfl) dL_law_973 (c_X11_drawn (xs (x3 + 1).toNatClampNeg) (xs (x3 + 2).toNatClampNeg) (xs (x3 + 3).toNatClampNeg) (xs (x3 + 4).toNatClampNeg) _ e14) ?_
  refine z_icmp_eq (tgt := 1628) cx (by decide) dL_law_976 (fun c15 => ?_) (fun c15 => ?_)
  · have h := g_t c15 h
    exact q_weak (z_wk_s (z_wk_s (z_wk_s (z_wk_s (z_wk_0))))) (t_L_law_1628 n xs nx cx lx k18 hk18 x3 S13 h)
  · have h := g_f c15 h
    refine z_iconst (v := 0) cx (by decide +kernel) dL_law_979 ?_
    exact absurd (g_some h).1 (by decide)
def f_L_law_981 (n : Nat) (xs : Nat → Int32) (nx : Nat) (k18 : Int32 → z_Stt → Option (Bool × z_Stt)) (x3 : Int32) (S : z_Stt) : Option (Bool × z_Stt) :=
  if ¬ (x3 + 1 < 0 ∨ nx ≤ (x3 + 1).toNatClampNeg) then
    if ¬ (x3 + 2 < 0 ∨ nx ≤ (x3 + 2).toNatClampNeg) then
      g_bd (f_X10_fits n (xs (x3 + 1).toNatClampNeg) (xs (x3 + 2).toNatClampNeg) S) fun v3 S4 =>
      if ¬ (x3 + 1 < 0 ∨ nx ≤ (x3 + 1).toNatClampNeg) then
        if ¬ (x3 + 2 < 0 ∨ nx ≤ (x3 + 2).toNatClampNeg) then
          g_bd (f_X11_fits n (xs (x3 + 1).toNatClampNeg) (xs (x3 + 2).toNatClampNeg) S4) fun v8 S9 =>
          if v3 = v8 then
            f_L_law_1628 n xs nx k18 x3 S9
          else
            some (false, S9)
        else none
      else none
    else none
  else none
set_option maxHeartbeats 4000000 in
set_option maxRecDepth 100000 in
theorem t_L_law_981 {g : z_G} {K : z_K} (n : Nat) (xs : Nat → Int32) (nx : Nat) {S' : z_Stt} (cx : z_C g M_L_law 1000 K) {b : Nat} (lx : z_LK K b nx xs) (k18 : Int32 → z_Stt → Option (Bool × z_Stt)) (hk18 : ∀ (x3 : Int32) (S : z_Stt), k18 x3 S = some (true, S') → z_At g M_L_law K 18 [some (.ref b), some (.ref (z_ad g 0)), some (.ref (z_ad g 48)), some (.int x3)] [] (hp g S)) (x3 : Int32) (S : z_Stt) (h : f_L_law_981 n xs nx k18 x3 S = some (true, S')) : z_At g M_L_law K 981 [some (.ref b), some (.ref (z_ad g 0)), some (.ref (z_ad g 48)), some (.int x3)] [] (hp g S) := by
  unfold f_L_law_981 at h
  refine z_aload_n cx rfl rfl dL_law_981 ?_
  refine z_aload_n cx rfl rfl dL_law_982 ?_
  refine z_iload_n cx rfl rfl dL_law_983 ?_
  refine z_iconst (v := 1) cx (by decide +kernel) dL_law_984 ?_
  refine z_iadd cx dL_law_985 ?_
  obtain ⟨c1, h⟩ := g_if h
  refine z_sld cx lx c1 dL_law_986 ?_
  refine z_aload_n cx rfl rfl dL_law_987 ?_
  refine z_iload_n cx rfl rfl dL_law_988 ?_
  refine z_iconst (v := 2) cx (by decide +kernel) dL_law_989 ?_
  refine z_iadd cx dL_law_990 ?_
  obtain ⟨c2, h⟩ := g_if h
  refine z_sld cx lx c2 dL_law_991 ?_
  obtain ⟨v3, S4, e5, h⟩ := g_bd_ex h
  refine q_cvi (As := [.int (xs (x3 + 1).toNatClampNeg), .int (xs (x3 + 2).toNatClampNeg)]) cx mo_X10_fits mv_X10_fits z_cl10 rfl tb_887 (by decide) rfl (by decide) rfl rfl (Nat.le_of_ble_eq_true rfl) dL_law_992 (c_X10_fits (xs (x3 + 1).toNatClampNeg) (xs (x3 + 2).toNatClampNeg) _ e5) ?_
  refine z_aload_n cx rfl rfl dL_law_995 ?_
  refine z_aload_n cx rfl rfl dL_law_996 ?_
  refine z_iload_n cx rfl rfl dL_law_997 ?_
  refine z_iconst (v := 1) cx (by decide +kernel) dL_law_998 ?_
  refine z_iadd cx dL_law_999 ?_
  obtain ⟨c6, h⟩ := g_if h
  refine z_sld cx lx c6 dL_law_1000 ?_
  refine z_aload_n cx rfl rfl dL_law_1001 ?_
  refine z_iload_n cx rfl rfl dL_law_1002 ?_
  refine z_iconst (v := 2) cx (by decide +kernel) dL_law_1003 ?_
  refine z_iadd cx dL_law_1004 ?_
  obtain ⟨c7, h⟩ := g_if h
  refine z_sld cx lx c7 dL_law_1005 ?_
  obtain ⟨v8, S9, e10, h⟩ := g_bd_ex h
  refine q_cvi (As := [.int (xs (x3 + 1).toNatClampNeg), .int (xs (x3 + 2).toNatClampNeg)]) cx mo_X11_fits mv_X11_fits z_cl11 rfl tb_898 (by decide) rfl (by decide) rfl rfl (Nat.le_of_ble_eq_true rfl) dL_law_1006 (c_X11_fits (xs (x3 + 1).toNatClampNeg) (xs (x3 + 2).toNatClampNeg) _ e10) ?_
  refine z_icmp_eq (tgt := 1628) cx (by decide) dL_law_1009 (fun c11 => ?_) (fun c11 => ?_)
  · have h := g_t c11 h
    exact q_weak (z_wk_s (z_wk_s (z_wk_s (z_wk_s (z_wk_0))))) (t_L_law_1628 n xs nx cx lx k18 hk18 x3 S9 h)
  · have h := g_f c11 h
    refine z_iconst (v := 0) cx (by decide +kernel) dL_law_1012 ?_
    exact absurd (g_some h).1 (by decide)
def f_L_law_1014 (n : Nat) (xs : Nat → Int32) (nx : Nat) (k18 : Int32 → z_Stt → Option (Bool × z_Stt)) (x3 : Int32) (S : z_Stt) : Option (Bool × z_Stt) :=
  if ¬ (x3 + 1 < 0 ∨ nx ≤ (x3 + 1).toNatClampNeg) then
    if ¬ (x3 + 2 < 0 ∨ nx ≤ (x3 + 2).toNatClampNeg) then
      if ¬ (x3 + 3 < 0 ∨ nx ≤ (x3 + 3).toNatClampNeg) then
        g_bd (f_X10_when n (xs (x3 + 1).toNatClampNeg) (xs (x3 + 2).toNatClampNeg) (xs (x3 + 3).toNatClampNeg) S) fun v4 S5 =>
        if ¬ (x3 + 1 < 0 ∨ nx ≤ (x3 + 1).toNatClampNeg) then
          if ¬ (x3 + 2 < 0 ∨ nx ≤ (x3 + 2).toNatClampNeg) then
            if ¬ (x3 + 3 < 0 ∨ nx ≤ (x3 + 3).toNatClampNeg) then
              g_bd (f_X11_when n (xs (x3 + 1).toNatClampNeg) (xs (x3 + 2).toNatClampNeg) (xs (x3 + 3).toNatClampNeg) S5) fun v10 S11 =>
              if v4 = v10 then
                f_L_law_1628 n xs nx k18 x3 S11
              else
                some (false, S11)
            else none
          else none
        else none
      else none
    else none
  else none
set_option maxHeartbeats 4000000 in
set_option maxRecDepth 100000 in
theorem t_L_law_1014 {g : z_G} {K : z_K} (n : Nat) (xs : Nat → Int32) (nx : Nat) {S' : z_Stt} (cx : z_C g M_L_law 1000 K) {b : Nat} (lx : z_LK K b nx xs) (k18 : Int32 → z_Stt → Option (Bool × z_Stt)) (hk18 : ∀ (x3 : Int32) (S : z_Stt), k18 x3 S = some (true, S') → z_At g M_L_law K 18 [some (.ref b), some (.ref (z_ad g 0)), some (.ref (z_ad g 48)), some (.int x3)] [] (hp g S)) (x3 : Int32) (S : z_Stt) (h : f_L_law_1014 n xs nx k18 x3 S = some (true, S')) : z_At g M_L_law K 1014 [some (.ref b), some (.ref (z_ad g 0)), some (.ref (z_ad g 48)), some (.int x3)] [] (hp g S) := by
  unfold f_L_law_1014 at h
  refine z_aload_n cx rfl rfl dL_law_1014 ?_
  refine z_aload_n cx rfl rfl dL_law_1015 ?_
  refine z_iload_n cx rfl rfl dL_law_1016 ?_
  refine z_iconst (v := 1) cx (by decide +kernel) dL_law_1017 ?_
  refine z_iadd cx dL_law_1018 ?_
  obtain ⟨c1, h⟩ := g_if h
  refine z_sld cx lx c1 dL_law_1019 ?_
  refine z_aload_n cx rfl rfl dL_law_1020 ?_
  refine z_iload_n cx rfl rfl dL_law_1021 ?_
  refine z_iconst (v := 2) cx (by decide +kernel) dL_law_1022 ?_
  refine z_iadd cx dL_law_1023 ?_
  obtain ⟨c2, h⟩ := g_if h
  refine z_sld cx lx c2 dL_law_1024 ?_
  refine z_aload_n cx rfl rfl dL_law_1025 ?_
  refine z_iload_n cx rfl rfl dL_law_1026 ?_
  refine z_iconst (v := 3) cx (by decide +kernel) dL_law_1027 ?_
  refine z_iadd cx dL_law_1028 ?_
  obtain ⟨c3, h⟩ := g_if h
  refine z_sld cx lx c3 dL_law_1029 ?_
  obtain ⟨v4, S5, e6, h⟩ := g_bd_ex h
  refine q_cvi (As := [.int (xs (x3 + 1).toNatClampNeg), .int (xs (x3 + 2).toNatClampNeg), .int (xs (x3 + 3).toNatClampNeg)]) cx mo_X10_when mv_X10_when z_cl10 rfl tb_914 (by decide) rfl (by decide) rfl rfl (Nat.le_of_ble_eq_true rfl) dL_law_1030 (c_X10_when (xs (x3 + 1).toNatClampNeg) (xs (x3 + 2).toNatClampNeg) (xs (x3 + 3).toNatClampNeg) _ e6) ?_
  refine z_aload_n cx rfl rfl dL_law_1033 ?_
  refine z_aload_n cx rfl rfl dL_law_1034 ?_
  refine z_iload_n cx rfl rfl dL_law_1035 ?_
  refine z_iconst (v := 1) cx (by decide +kernel) dL_law_1036 ?_
  refine z_iadd cx dL_law_1037 ?_
  obtain ⟨c7, h⟩ := g_if h
  refine z_sld cx lx c7 dL_law_1038 ?_
  refine z_aload_n cx rfl rfl dL_law_1039 ?_
  refine z_iload_n cx rfl rfl dL_law_1040 ?_
  refine z_iconst (v := 2) cx (by decide +kernel) dL_law_1041 ?_
  refine z_iadd cx dL_law_1042 ?_
  obtain ⟨c8, h⟩ := g_if h
  refine z_sld cx lx c8 dL_law_1043 ?_
  refine z_aload_n cx rfl rfl dL_law_1044 ?_
  refine z_iload_n cx rfl rfl dL_law_1045 ?_
  refine z_iconst (v := 3) cx (by decide +kernel) dL_law_1046 ?_
  refine z_iadd cx dL_law_1047 ?_
  obtain ⟨c9, h⟩ := g_if h
  refine z_sld cx lx c9 dL_law_1048 ?_
  obtain ⟨v10, S11, e12, h⟩ := g_bd_ex h
  refine q_cvi (As := [.int (xs (x3 + 1).toNatClampNeg), .int (xs (x3 + 2).toNatClampNeg), .int (xs (x3 + 3).toNatClampNeg)]) cx mo_X11_when mv_X11_when z_cl11 rfl tb_918 (by decide) rfl (by decide) rfl rfl (Nat.le_of_ble_eq_true rfl) dL_law_1049 (c_X11_when (xs (x3 + 1).toNatClampNeg) (xs (x3 + 2).toNatClampNeg) (xs (x3 + 3).toNatClampNeg) _ e12) ?_
  refine z_icmp_eq (tgt := 1628) cx (by decide) dL_law_1052 (fun c13 => ?_) (fun c13 => ?_)
  · have h := g_t c13 h
    exact q_weak (z_wk_s (z_wk_s (z_wk_s (z_wk_s (z_wk_0))))) (t_L_law_1628 n xs nx cx lx k18 hk18 x3 S11 h)
  · have h := g_f c13 h
    refine z_iconst (v := 0) cx (by decide +kernel) dL_law_1055 ?_
    exact absurd (g_some h).1 (by decide)
def f_L_law_1057 (n : Nat) (xs : Nat → Int32) (nx : Nat) (k18 : Int32 → z_Stt → Option (Bool × z_Stt)) (x3 : Int32) (S : z_Stt) : Option (Bool × z_Stt) :=
  if ¬ (x3 + 1 < 0 ∨ nx ≤ (x3 + 1).toNatClampNeg) then
    g_bd (f_X10_judge n (xs (x3 + 1).toNatClampNeg) S) fun v2 S3 =>
    if ¬ (x3 + 1 < 0 ∨ nx ≤ (x3 + 1).toNatClampNeg) then
      g_bd (f_X11_judge n (xs (x3 + 1).toNatClampNeg) S3) fun v6 S7 =>
      if v2 = v6 then
        f_L_law_1628 n xs nx k18 x3 S7
      else
        some (false, S7)
    else none
  else none
set_option maxHeartbeats 4000000 in
set_option maxRecDepth 100000 in
theorem t_L_law_1057 {g : z_G} {K : z_K} (n : Nat) (xs : Nat → Int32) (nx : Nat) {S' : z_Stt} (cx : z_C g M_L_law 1000 K) {b : Nat} (lx : z_LK K b nx xs) (k18 : Int32 → z_Stt → Option (Bool × z_Stt)) (hk18 : ∀ (x3 : Int32) (S : z_Stt), k18 x3 S = some (true, S') → z_At g M_L_law K 18 [some (.ref b), some (.ref (z_ad g 0)), some (.ref (z_ad g 48)), some (.int x3)] [] (hp g S)) (x3 : Int32) (S : z_Stt) (h : f_L_law_1057 n xs nx k18 x3 S = some (true, S')) : z_At g M_L_law K 1057 [some (.ref b), some (.ref (z_ad g 0)), some (.ref (z_ad g 48)), some (.int x3)] [] (hp g S) := by
  unfold f_L_law_1057 at h
  refine z_aload_n cx rfl rfl dL_law_1057 ?_
  refine z_aload_n cx rfl rfl dL_law_1058 ?_
  refine z_iload_n cx rfl rfl dL_law_1059 ?_
  refine z_iconst (v := 1) cx (by decide +kernel) dL_law_1060 ?_
  refine z_iadd cx dL_law_1061 ?_
  obtain ⟨c1, h⟩ := g_if h
  refine z_sld cx lx c1 dL_law_1062 ?_
  obtain ⟨v2, S3, e4, h⟩ := g_bd_ex h
  refine q_cvi (As := [.int (xs (x3 + 1).toNatClampNeg)]) cx mo_X10_judge mv_X10_judge z_cl10 rfl tb_923 (by decide) rfl (by decide) rfl rfl (Nat.le_of_ble_eq_true rfl) dL_law_1063 (c_X10_judge (xs (x3 + 1).toNatClampNeg) _ e4) ?_
  refine z_aload_n cx rfl rfl dL_law_1066 ?_
  refine z_aload_n cx rfl rfl dL_law_1067 ?_
  refine z_iload_n cx rfl rfl dL_law_1068 ?_
  refine z_iconst (v := 1) cx (by decide +kernel) dL_law_1069 ?_
  refine z_iadd cx dL_law_1070 ?_
  obtain ⟨c5, h⟩ := g_if h
  refine z_sld cx lx c5 dL_law_1071 ?_
  obtain ⟨v6, S7, e8, h⟩ := g_bd_ex h
  refine q_cvi (As := [.int (xs (x3 + 1).toNatClampNeg)]) cx mo_X11_judge mv_X11_judge z_cl11 rfl tb_931 (by decide) rfl (by decide) rfl rfl (Nat.le_of_ble_eq_true rfl) dL_law_1072 (c_X11_judge (xs (x3 + 1).toNatClampNeg) _ e8) ?_
  refine z_icmp_eq (tgt := 1628) cx (by decide) dL_law_1075 (fun c9 => ?_) (fun c9 => ?_)
  · have h := g_t c9 h
    exact q_weak (z_wk_s (z_wk_s (z_wk_s (z_wk_s (z_wk_0))))) (t_L_law_1628 n xs nx cx lx k18 hk18 x3 S7 h)
  · have h := g_f c9 h
    refine z_iconst (v := 0) cx (by decide +kernel) dL_law_1078 ?_
    exact absurd (g_some h).1 (by decide)
def f_L_law_1080 (n : Nat) (xs : Nat → Int32) (nx : Nat) (k18 : Int32 → z_Stt → Option (Bool × z_Stt)) (x3 : Int32) (S : z_Stt) : Option (Bool × z_Stt) :=
  if ¬ (x3 + 1 < 0 ∨ nx ≤ (x3 + 1).toNatClampNeg) then
    if ¬ (x3 + 2 < 0 ∨ nx ≤ (x3 + 2).toNatClampNeg) then
      g_bd (f_X10_morning (xs (x3 + 1).toNatClampNeg) (xs (x3 + 2).toNatClampNeg) S) fun v3 S4 =>
      if ¬ (x3 + 1 < 0 ∨ nx ≤ (x3 + 1).toNatClampNeg) then
        if ¬ (x3 + 2 < 0 ∨ nx ≤ (x3 + 2).toNatClampNeg) then
          g_bd (f_X11_morning (xs (x3 + 1).toNatClampNeg) (xs (x3 + 2).toNatClampNeg) S4) fun v8 S9 =>
          if v3 = v8 then
            f_L_law_1628 n xs nx k18 x3 S9
          else
            some (false, S9)
        else none
      else none
    else none
  else none
set_option maxHeartbeats 4000000 in
set_option maxRecDepth 100000 in
theorem t_L_law_1080 {g : z_G} {K : z_K} (n : Nat) (xs : Nat → Int32) (nx : Nat) {S' : z_Stt} (cx : z_C g M_L_law 1000 K) {b : Nat} (lx : z_LK K b nx xs) (k18 : Int32 → z_Stt → Option (Bool × z_Stt)) (hk18 : ∀ (x3 : Int32) (S : z_Stt), k18 x3 S = some (true, S') → z_At g M_L_law K 18 [some (.ref b), some (.ref (z_ad g 0)), some (.ref (z_ad g 48)), some (.int x3)] [] (hp g S)) (x3 : Int32) (S : z_Stt) (h : f_L_law_1080 n xs nx k18 x3 S = some (true, S')) : z_At g M_L_law K 1080 [some (.ref b), some (.ref (z_ad g 0)), some (.ref (z_ad g 48)), some (.int x3)] [] (hp g S) := by
  unfold f_L_law_1080 at h
  refine z_aload_n cx rfl rfl dL_law_1080 ?_
  refine z_aload_n cx rfl rfl dL_law_1081 ?_
  refine z_iload_n cx rfl rfl dL_law_1082 ?_
  refine z_iconst (v := 1) cx (by decide +kernel) dL_law_1083 ?_
  refine z_iadd cx dL_law_1084 ?_
  obtain ⟨c1, h⟩ := g_if h
  refine z_sld cx lx c1 dL_law_1085 ?_
  refine z_aload_n cx rfl rfl dL_law_1086 ?_
  refine z_iload_n cx rfl rfl dL_law_1087 ?_
  refine z_iconst (v := 2) cx (by decide +kernel) dL_law_1088 ?_
  refine z_iadd cx dL_law_1089 ?_
  obtain ⟨c2, h⟩ := g_if h
  refine z_sld cx lx c2 dL_law_1090 ?_
  obtain ⟨v3, S4, e5, h⟩ := g_bd_ex h
  refine q_cvi (As := [.int (xs (x3 + 1).toNatClampNeg), .int (xs (x3 + 2).toNatClampNeg)]) cx mo_X10_morning mv_X10_morning z_cl10 rfl tb_939 (by decide) rfl (by decide) rfl rfl (Nat.le_of_ble_eq_true rfl) dL_law_1091 (c_X10_morning (xs (x3 + 1).toNatClampNeg) (xs (x3 + 2).toNatClampNeg) _ e5) ?_
  refine z_aload_n cx rfl rfl dL_law_1094 ?_
  refine z_aload_n cx rfl rfl dL_law_1095 ?_
  refine z_iload_n cx rfl rfl dL_law_1096 ?_
  refine z_iconst (v := 1) cx (by decide +kernel) dL_law_1097 ?_
  refine z_iadd cx dL_law_1098 ?_
  obtain ⟨c6, h⟩ := g_if h
  refine z_sld cx lx c6 dL_law_1099 ?_
  refine z_aload_n cx rfl rfl dL_law_1100 ?_
  refine z_iload_n cx rfl rfl dL_law_1101 ?_
  refine z_iconst (v := 2) cx (by decide +kernel) dL_law_1102 ?_
  refine z_iadd cx dL_law_1103 ?_
  obtain ⟨c7, h⟩ := g_if h
  refine z_sld cx lx c7 dL_law_1104 ?_
  obtain ⟨v8, S9, e10, h⟩ := g_bd_ex h
  refine q_cvi (As := [.int (xs (x3 + 1).toNatClampNeg), .int (xs (x3 + 2).toNatClampNeg)]) cx mo_X11_morning mv_X11_morning z_cl11 rfl tb_950 (by decide) rfl (by decide) rfl rfl (Nat.le_of_ble_eq_true rfl) dL_law_1105 (c_X11_morning (xs (x3 + 1).toNatClampNeg) (xs (x3 + 2).toNatClampNeg) _ e10) ?_
  refine z_icmp_eq (tgt := 1628) cx (by decide) dL_law_1108 (fun c11 => ?_) (fun c11 => ?_)
  · have h := g_t c11 h
    exact q_weak (z_wk_s (z_wk_s (z_wk_s (z_wk_s (z_wk_0))))) (t_L_law_1628 n xs nx cx lx k18 hk18 x3 S9 h)
  · have h := g_f c11 h
    refine z_iconst (v := 0) cx (by decide +kernel) dL_law_1111 ?_
    exact absurd (g_some h).1 (by decide)
def f_L_law_1113 (n : Nat) (xs : Nat → Int32) (nx : Nat) (k18 : Int32 → z_Stt → Option (Bool × z_Stt)) (x3 : Int32) (S : z_Stt) : Option (Bool × z_Stt) :=
  if ¬ (x3 + 1 < 0 ∨ nx ≤ (x3 + 1).toNatClampNeg) then
    g_bd (f_X10_goBack (xs (x3 + 1).toNatClampNeg) S) fun v2 S3 =>
    if ¬ (x3 + 1 < 0 ∨ nx ≤ (x3 + 1).toNatClampNeg) then
      g_bd (f_X11_goBack (xs (x3 + 1).toNatClampNeg) S3) fun v6 S7 =>
      if v2 = v6 then
        f_L_law_1628 n xs nx k18 x3 S7
      else
        some (false, S7)
    else none
  else none
set_option maxHeartbeats 4000000 in
set_option maxRecDepth 100000 in
theorem t_L_law_1113 {g : z_G} {K : z_K} (n : Nat) (xs : Nat → Int32) (nx : Nat) {S' : z_Stt} (cx : z_C g M_L_law 1000 K) {b : Nat} (lx : z_LK K b nx xs) (k18 : Int32 → z_Stt → Option (Bool × z_Stt)) (hk18 : ∀ (x3 : Int32) (S : z_Stt), k18 x3 S = some (true, S') → z_At g M_L_law K 18 [some (.ref b), some (.ref (z_ad g 0)), some (.ref (z_ad g 48)), some (.int x3)] [] (hp g S)) (x3 : Int32) (S : z_Stt) (h : f_L_law_1113 n xs nx k18 x3 S = some (true, S')) : z_At g M_L_law K 1113 [some (.ref b), some (.ref (z_ad g 0)), some (.ref (z_ad g 48)), some (.int x3)] [] (hp g S) := by
  unfold f_L_law_1113 at h
  refine z_aload_n cx rfl rfl dL_law_1113 ?_
  refine z_aload_n cx rfl rfl dL_law_1114 ?_
  refine z_iload_n cx rfl rfl dL_law_1115 ?_
  refine z_iconst (v := 1) cx (by decide +kernel) dL_law_1116 ?_
  refine z_iadd cx dL_law_1117 ?_
  obtain ⟨c1, h⟩ := g_if h
  refine z_sld cx lx c1 dL_law_1118 ?_
  obtain ⟨v2, S3, e4, h⟩ := g_bd_ex h
  refine q_cvi (As := [.int (xs (x3 + 1).toNatClampNeg)]) cx mo_X10_goBack mv_X10_goBack z_cl10 rfl tb_955 (by decide) rfl (by decide) rfl rfl (Nat.le_of_ble_eq_true rfl) dL_law_1119 (c_X10_goBack (xs (x3 + 1).toNatClampNeg) _ e4) ?_
  refine z_aload_n cx rfl rfl dL_law_1122 ?_
  refine z_aload_n cx rfl rfl dL_law_1123 ?_
  refine z_iload_n cx rfl rfl dL_law_1124 ?_
  refine z_iconst (v := 1) cx (by decide +kernel) dL_law_1125 ?_
  refine z_iadd cx dL_law_1126 ?_
  obtain ⟨c5, h⟩ := g_if h
  refine z_sld cx lx c5 dL_law_1127 ?_
  obtain ⟨v6, S7, e8, h⟩ := g_bd_ex h
  refine q_cvi (As := [.int (xs (x3 + 1).toNatClampNeg)]) cx mo_X11_goBack mv_X11_goBack z_cl11 rfl tb_964 (by decide) rfl (by decide) rfl rfl (Nat.le_of_ble_eq_true rfl) dL_law_1128 (c_X11_goBack (xs (x3 + 1).toNatClampNeg) _ e8) ?_
  refine z_icmp_eq (tgt := 1628) cx (by decide) dL_law_1131 (fun c9 => ?_) (fun c9 => ?_)
  · have h := g_t c9 h
    exact q_weak (z_wk_s (z_wk_s (z_wk_s (z_wk_s (z_wk_0))))) (t_L_law_1628 n xs nx cx lx k18 hk18 x3 S7 h)
  · have h := g_f c9 h
    refine z_iconst (v := 0) cx (by decide +kernel) dL_law_1134 ?_
    exact absurd (g_some h).1 (by decide)
def f_L_law_1136 (n : Nat) (xs : Nat → Int32) (nx : Nat) (k18 : Int32 → z_Stt → Option (Bool × z_Stt)) (x3 : Int32) (S : z_Stt) : Option (Bool × z_Stt) :=
  g_bd (f_X10_goOn S) fun v1 S2 =>
  g_bd (f_X11_goOn S2) fun v4 S5 =>
  if v1 = v4 then
    f_L_law_1628 n xs nx k18 x3 S5
  else
    some (false, S5)
set_option maxHeartbeats 4000000 in
set_option maxRecDepth 100000 in
theorem t_L_law_1136 {g : z_G} {K : z_K} (n : Nat) (xs : Nat → Int32) (nx : Nat) {S' : z_Stt} (cx : z_C g M_L_law 1000 K) {b : Nat} (lx : z_LK K b nx xs) (k18 : Int32 → z_Stt → Option (Bool × z_Stt)) (hk18 : ∀ (x3 : Int32) (S : z_Stt), k18 x3 S = some (true, S') → z_At g M_L_law K 18 [some (.ref b), some (.ref (z_ad g 0)), some (.ref (z_ad g 48)), some (.int x3)] [] (hp g S)) (x3 : Int32) (S : z_Stt) (h : f_L_law_1136 n xs nx k18 x3 S = some (true, S')) : z_At g M_L_law K 1136 [some (.ref b), some (.ref (z_ad g 0)), some (.ref (z_ad g 48)), some (.int x3)] [] (hp g S) := by
  unfold f_L_law_1136 at h
  refine z_aload_n cx rfl rfl dL_law_1136 ?_
  obtain ⟨v1, S2, e3, h⟩ := g_bd_ex h
  refine q_cvi (As := []) cx mo_X10_goOn mv_X10_goOn z_cl10 rfl tb_972 (by decide) rfl (by decide) rfl rfl (Nat.le_of_ble_eq_true rfl) dL_law_1137 (c_X10_goOn  _ e3) ?_
  refine z_aload_n cx rfl rfl dL_law_1140 ?_
  obtain ⟨v4, S5, e6, h⟩ := g_bd_ex h
  refine q_cvi (As := []) cx mo_X11_goOn mv_X11_goOn z_cl11 rfl tb_976 (by decide) rfl (by decide) rfl rfl (Nat.le_of_ble_eq_true rfl) dL_law_1141 (c_X11_goOn  _ e6) ?_
  refine z_icmp_eq (tgt := 1628) cx (by decide) dL_law_1144 (fun c7 => ?_) (fun c7 => ?_)
  · have h := g_t c7 h
    exact q_weak (z_wk_s (z_wk_s (z_wk_s (z_wk_s (z_wk_0))))) (t_L_law_1628 n xs nx cx lx k18 hk18 x3 S5 h)
  · have h := g_f c7 h
    refine z_iconst (v := 0) cx (by decide +kernel) dL_law_1147 ?_
    exact absurd (g_some h).1 (by decide)
def f_L_law_1149 (n : Nat) (xs : Nat → Int32) (nx : Nat) (k18 : Int32 → z_Stt → Option (Bool × z_Stt)) (x3 : Int32) (S : z_Stt) : Option (Bool × z_Stt) :=
  g_bd (f_X10_dayOff n S) fun v1 S2 =>
  g_bd (f_X11_dayOff n S2) fun v4 S5 =>
  if v1 = v4 then
    f_L_law_1628 n xs nx k18 x3 S5
  else
    some (false, S5)
set_option maxHeartbeats 4000000 in
set_option maxRecDepth 100000 in
theorem t_L_law_1149 {g : z_G} {K : z_K} (n : Nat) (xs : Nat → Int32) (nx : Nat) {S' : z_Stt} (cx : z_C g M_L_law 1000 K) {b : Nat} (lx : z_LK K b nx xs) (k18 : Int32 → z_Stt → Option (Bool × z_Stt)) (hk18 : ∀ (x3 : Int32) (S : z_Stt), k18 x3 S = some (true, S') → z_At g M_L_law K 18 [some (.ref b), some (.ref (z_ad g 0)), some (.ref (z_ad g 48)), some (.int x3)] [] (hp g S)) (x3 : Int32) (S : z_Stt) (h : f_L_law_1149 n xs nx k18 x3 S = some (true, S')) : z_At g M_L_law K 1149 [some (.ref b), some (.ref (z_ad g 0)), some (.ref (z_ad g 48)), some (.int x3)] [] (hp g S) := by
  unfold f_L_law_1149 at h
  refine z_aload_n cx rfl rfl dL_law_1149 ?_
  obtain ⟨v1, S2, e3, h⟩ := g_bd_ex h
  refine q_cvi (As := []) cx mo_X10_dayOff mv_X10_dayOff z_cl10 rfl tb_980 (by decide) rfl (by decide) rfl rfl (Nat.le_of_ble_eq_true rfl) dL_law_1150 (c_X10_dayOff  _ e3) ?_
  refine z_aload_n cx rfl rfl dL_law_1153 ?_
  obtain ⟨v4, S5, e6, h⟩ := g_bd_ex h
  refine q_cvi (As := []) cx mo_X11_dayOff mv_X11_dayOff z_cl11 rfl tb_988 (by decide) rfl (by decide) rfl rfl (Nat.le_of_ble_eq_true rfl) dL_law_1154 (c_X11_dayOff  _ e6) ?_
  refine z_icmp_eq (tgt := 1628) cx (by decide) dL_law_1157 (fun c7 => ?_) (fun c7 => ?_)
  · have h := g_t c7 h
    exact q_weak (z_wk_s (z_wk_s (z_wk_s (z_wk_s (z_wk_0))))) (t_L_law_1628 n xs nx cx lx k18 hk18 x3 S5 h)
  · have h := g_f c7 h
    refine z_iconst (v := 0) cx (by decide +kernel) dL_law_1160 ?_
    exact absurd (g_some h).1 (by decide)
def f_L_law_1162 (n : Nat) (xs : Nat → Int32) (nx : Nat) (k18 : Int32 → z_Stt → Option (Bool × z_Stt)) (x3 : Int32) (S : z_Stt) : Option (Bool × z_Stt) :=
  if ¬ (x3 + 1 < 0 ∨ nx ≤ (x3 + 1).toNatClampNeg) then
    g_bd (f_X10_led (xs (x3 + 1).toNatClampNeg) S) fun v2 S3 =>
    if ¬ (x3 + 1 < 0 ∨ nx ≤ (x3 + 1).toNatClampNeg) then
      g_bd (f_X11_led (xs (x3 + 1).toNatClampNeg) S3) fun v6 S7 =>
      if v2 = v6 then
        f_L_law_1628 n xs nx k18 x3 S7
      else
        some (false, S7)
    else none
  else none
set_option maxHeartbeats 4000000 in
set_option maxRecDepth 100000 in
theorem t_L_law_1162 {g : z_G} {K : z_K} (n : Nat) (xs : Nat → Int32) (nx : Nat) {S' : z_Stt} (cx : z_C g M_L_law 1000 K) {b : Nat} (lx : z_LK K b nx xs) (k18 : Int32 → z_Stt → Option (Bool × z_Stt)) (hk18 : ∀ (x3 : Int32) (S : z_Stt), k18 x3 S = some (true, S') → z_At g M_L_law K 18 [some (.ref b), some (.ref (z_ad g 0)), some (.ref (z_ad g 48)), some (.int x3)] [] (hp g S)) (x3 : Int32) (S : z_Stt) (h : f_L_law_1162 n xs nx k18 x3 S = some (true, S')) : z_At g M_L_law K 1162 [some (.ref b), some (.ref (z_ad g 0)), some (.ref (z_ad g 48)), some (.int x3)] [] (hp g S) := by
  unfold f_L_law_1162 at h
  refine z_aload_n cx rfl rfl dL_law_1162 ?_
  refine z_aload_n cx rfl rfl dL_law_1163 ?_
  refine z_iload_n cx rfl rfl dL_law_1164 ?_
  refine z_iconst (v := 1) cx (by decide +kernel) dL_law_1165 ?_
  refine z_iadd cx dL_law_1166 ?_
  obtain ⟨c1, h⟩ := g_if h
  refine z_sld cx lx c1 dL_law_1167 ?_
  obtain ⟨v2, S3, e4, h⟩ := g_bd_ex h
  refine q_cvi (As := [.int (xs (x3 + 1).toNatClampNeg)]) cx mo_X10_led mv_X10_led z_cl10 rfl tb_992 (by decide) rfl (by decide) rfl rfl (Nat.le_of_ble_eq_true rfl) dL_law_1168 (c_X10_led (xs (x3 + 1).toNatClampNeg) _ e4) ?_
  refine z_aload_n cx rfl rfl dL_law_1171 ?_
  refine z_aload_n cx rfl rfl dL_law_1172 ?_
  refine z_iload_n cx rfl rfl dL_law_1173 ?_
  refine z_iconst (v := 1) cx (by decide +kernel) dL_law_1174 ?_
  refine z_iadd cx dL_law_1175 ?_
  obtain ⟨c5, h⟩ := g_if h
  refine z_sld cx lx c5 dL_law_1176 ?_
  obtain ⟨v6, S7, e8, h⟩ := g_bd_ex h
  refine q_cvi (As := [.int (xs (x3 + 1).toNatClampNeg)]) cx mo_X11_led mv_X11_led z_cl11 rfl tb_997 (by decide) rfl (by decide) rfl rfl (Nat.le_of_ble_eq_true rfl) dL_law_1177 (c_X11_led (xs (x3 + 1).toNatClampNeg) _ e8) ?_
  refine z_icmp_eq (tgt := 1628) cx (by decide) dL_law_1180 (fun c9 => ?_) (fun c9 => ?_)
  · have h := g_t c9 h
    exact q_weak (z_wk_s (z_wk_s (z_wk_s (z_wk_s (z_wk_0))))) (t_L_law_1628 n xs nx cx lx k18 hk18 x3 S7 h)
  · have h := g_f c9 h
    refine z_iconst (v := 0) cx (by decide +kernel) dL_law_1183 ?_
    exact absurd (g_some h).1 (by decide)
def f_L_law_1185 (n : Nat) (xs : Nat → Int32) (nx : Nat) (k18 : Int32 → z_Stt → Option (Bool × z_Stt)) (x3 : Int32) (S : z_Stt) : Option (Bool × z_Stt) :=
  g_bd (f_X10_image n S) fun v1 S2 =>
  g_bd (f_X11_image n S2) fun v4 S5 =>
  if v1 = v4 then
    f_L_law_1628 n xs nx k18 x3 S5
  else
    some (false, S5)
set_option maxHeartbeats 4000000 in
set_option maxRecDepth 100000 in
theorem t_L_law_1185 {g : z_G} {K : z_K} (n : Nat) (xs : Nat → Int32) (nx : Nat) {S' : z_Stt} (cx : z_C g M_L_law 1000 K) {b : Nat} (lx : z_LK K b nx xs) (k18 : Int32 → z_Stt → Option (Bool × z_Stt)) (hk18 : ∀ (x3 : Int32) (S : z_Stt), k18 x3 S = some (true, S') → z_At g M_L_law K 18 [some (.ref b), some (.ref (z_ad g 0)), some (.ref (z_ad g 48)), some (.int x3)] [] (hp g S)) (x3 : Int32) (S : z_Stt) (h : f_L_law_1185 n xs nx k18 x3 S = some (true, S')) : z_At g M_L_law K 1185 [some (.ref b), some (.ref (z_ad g 0)), some (.ref (z_ad g 48)), some (.int x3)] [] (hp g S) := by
  unfold f_L_law_1185 at h
  refine z_aload_n cx rfl rfl dL_law_1185 ?_
  obtain ⟨v1, S2, e3, h⟩ := g_bd_ex h
  refine q_cvi (As := []) cx mo_X10_image mv_X10_image z_cl10 rfl tb_1001 (by decide) rfl (by decide) rfl rfl (Nat.le_of_ble_eq_true rfl) dL_law_1186 (c_X10_image  _ e3) ?_
  refine z_aload_n cx rfl rfl dL_law_1189 ?_
  obtain ⟨v4, S5, e6, h⟩ := g_bd_ex h
  refine q_cvi (As := []) cx mo_X11_image mv_X11_image z_cl11 rfl tb_1009 (by decide) rfl (by decide) rfl rfl (Nat.le_of_ble_eq_true rfl) dL_law_1190 (c_X11_image  _ e6) ?_
  refine z_icmp_eq (tgt := 1628) cx (by decide) dL_law_1193 (fun c7 => ?_) (fun c7 => ?_)
  · have h := g_t c7 h
    exact q_weak (z_wk_s (z_wk_s (z_wk_s (z_wk_s (z_wk_0))))) (t_L_law_1628 n xs nx cx lx k18 hk18 x3 S5 h)
  · have h := g_f c7 h
    refine z_iconst (v := 0) cx (by decide +kernel) dL_law_1196 ?_
    exact absurd (g_some h).1 (by decide)
def f_L_law_1198 (n : Nat) (xs : Nat → Int32) (nx : Nat) (k18 : Int32 → z_Stt → Option (Bool × z_Stt)) (x3 : Int32) (S : z_Stt) : Option (Bool × z_Stt) :=
  g_bd (f_X10_back n S) fun v1 S2 =>
  g_bd (f_X11_back n S2) fun v4 S5 =>
  if v1 = v4 then
    f_L_law_1628 n xs nx k18 x3 S5
  else
    some (false, S5)
set_option maxHeartbeats 4000000 in
set_option maxRecDepth 100000 in
theorem t_L_law_1198 {g : z_G} {K : z_K} (n : Nat) (xs : Nat → Int32) (nx : Nat) {S' : z_Stt} (cx : z_C g M_L_law 1000 K) {b : Nat} (lx : z_LK K b nx xs) (k18 : Int32 → z_Stt → Option (Bool × z_Stt)) (hk18 : ∀ (x3 : Int32) (S : z_Stt), k18 x3 S = some (true, S') → z_At g M_L_law K 18 [some (.ref b), some (.ref (z_ad g 0)), some (.ref (z_ad g 48)), some (.int x3)] [] (hp g S)) (x3 : Int32) (S : z_Stt) (h : f_L_law_1198 n xs nx k18 x3 S = some (true, S')) : z_At g M_L_law K 1198 [some (.ref b), some (.ref (z_ad g 0)), some (.ref (z_ad g 48)), some (.int x3)] [] (hp g S) := by
  unfold f_L_law_1198 at h
  refine z_aload_n cx rfl rfl dL_law_1198 ?_
  obtain ⟨v1, S2, e3, h⟩ := g_bd_ex h
  refine q_cvi (As := []) cx mo_X10_back mv_X10_back z_cl10 rfl tb_1015 (by decide) rfl (by decide) rfl rfl (Nat.le_of_ble_eq_true rfl) dL_law_1199 (c_X10_back  _ e3) ?_
  refine z_aload_n cx rfl rfl dL_law_1202 ?_
  obtain ⟨v4, S5, e6, h⟩ := g_bd_ex h
  refine q_cvi (As := []) cx mo_X11_back mv_X11_back z_cl11 rfl tb_1019 (by decide) rfl (by decide) rfl rfl (Nat.le_of_ble_eq_true rfl) dL_law_1203 (c_X11_back  _ e6) ?_
  refine z_icmp_eq (tgt := 1628) cx (by decide) dL_law_1206 (fun c7 => ?_) (fun c7 => ?_)
  · have h := g_t c7 h
    exact q_weak (z_wk_s (z_wk_s (z_wk_s (z_wk_s (z_wk_0))))) (t_L_law_1628 n xs nx cx lx k18 hk18 x3 S5 h)
  · have h := g_f c7 h
    refine z_iconst (v := 0) cx (by decide +kernel) dL_law_1209 ?_
    exact absurd (g_some h).1 (by decide)
def f_L_law_1211 (n : Nat) (xs : Nat → Int32) (nx : Nat) (k18 : Int32 → z_Stt → Option (Bool × z_Stt)) (x3 : Int32) (S : z_Stt) : Option (Bool × z_Stt) :=
  g_bd (f_X10_undo S) fun v1 S2 =>
  g_bd (f_X11_undo S2) fun v4 S5 =>
  if v1 = v4 then
    f_L_law_1628 n xs nx k18 x3 S5
  else
    some (false, S5)
set_option maxHeartbeats 4000000 in
set_option maxRecDepth 100000 in
theorem t_L_law_1211 {g : z_G} {K : z_K} (n : Nat) (xs : Nat → Int32) (nx : Nat) {S' : z_Stt} (cx : z_C g M_L_law 1000 K) {b : Nat} (lx : z_LK K b nx xs) (k18 : Int32 → z_Stt → Option (Bool × z_Stt)) (hk18 : ∀ (x3 : Int32) (S : z_Stt), k18 x3 S = some (true, S') → z_At g M_L_law K 18 [some (.ref b), some (.ref (z_ad g 0)), some (.ref (z_ad g 48)), some (.int x3)] [] (hp g S)) (x3 : Int32) (S : z_Stt) (h : f_L_law_1211 n xs nx k18 x3 S = some (true, S')) : z_At g M_L_law K 1211 [some (.ref b), some (.ref (z_ad g 0)), some (.ref (z_ad g 48)), some (.int x3)] [] (hp g S) := by
  unfold f_L_law_1211 at h
  refine z_aload_n cx rfl rfl dL_law_1211 ?_
  obtain ⟨v1, S2, e3, h⟩ := g_bd_ex h
  refine q_cvi (As := []) cx mo_X10_undo mv_X10_undo z_cl10 rfl tb_1023 (by decide) rfl (by decide) rfl rfl (Nat.le_of_ble_eq_true rfl) dL_law_1212 (c_X10_undo  _ e3) ?_
  refine z_aload_n cx rfl rfl dL_law_1215 ?_
  obtain ⟨v4, S5, e6, h⟩ := g_bd_ex h
  refine q_cvi (As := []) cx mo_X11_undo mv_X11_undo z_cl11 rfl tb_1033 (by decide) rfl (by decide) rfl rfl (Nat.le_of_ble_eq_true rfl) dL_law_1216 (c_X11_undo  _ e6) ?_
  refine z_icmp_eq (tgt := 1628) cx (by decide) dL_law_1219 (fun c7 => ?_) (fun c7 => ?_)
  · have h := g_t c7 h
    exact q_weak (z_wk_s (z_wk_s (z_wk_s (z_wk_s (z_wk_0))))) (t_L_law_1628 n xs nx cx lx k18 hk18 x3 S5 h)
  · have h := g_f c7 h
    refine z_iconst (v := 0) cx (by decide +kernel) dL_law_1222 ?_
    exact absurd (g_some h).1 (by decide)
def f_L_law_1224 (n : Nat) (xs : Nat → Int32) (nx : Nat) (k18 : Int32 → z_Stt → Option (Bool × z_Stt)) (x3 : Int32) (S : z_Stt) : Option (Bool × z_Stt) :=
  g_bd (f_X10_redo S) fun v1 S2 =>
  g_bd (f_X11_redo S2) fun v4 S5 =>
  if v1 = v4 then
    f_L_law_1628 n xs nx k18 x3 S5
  else
    some (false, S5)
set_option maxHeartbeats 4000000 in
set_option maxRecDepth 100000 in
theorem t_L_law_1224 {g : z_G} {K : z_K} (n : Nat) (xs : Nat → Int32) (nx : Nat) {S' : z_Stt} (cx : z_C g M_L_law 1000 K) {b : Nat} (lx : z_LK K b nx xs) (k18 : Int32 → z_Stt → Option (Bool × z_Stt)) (hk18 : ∀ (x3 : Int32) (S : z_Stt), k18 x3 S = some (true, S') → z_At g M_L_law K 18 [some (.ref b), some (.ref (z_ad g 0)), some (.ref (z_ad g 48)), some (.int x3)] [] (hp g S)) (x3 : Int32) (S : z_Stt) (h : f_L_law_1224 n xs nx k18 x3 S = some (true, S')) : z_At g M_L_law K 1224 [some (.ref b), some (.ref (z_ad g 0)), some (.ref (z_ad g 48)), some (.int x3)] [] (hp g S) := by
  unfold f_L_law_1224 at h
  refine z_aload_n cx rfl rfl dL_law_1224 ?_
  obtain ⟨v1, S2, e3, h⟩ := g_bd_ex h
  refine q_cvi (As := []) cx mo_X10_redo mv_X10_redo z_cl10 rfl tb_1037 (by decide) rfl (by decide) rfl rfl (Nat.le_of_ble_eq_true rfl) dL_law_1225 (c_X10_redo  _ e3) ?_
  refine z_aload_n cx rfl rfl dL_law_1228 ?_
  obtain ⟨v4, S5, e6, h⟩ := g_bd_ex h
  refine q_cvi (As := []) cx mo_X11_redo mv_X11_redo z_cl11 rfl tb_1046 (by decide) rfl (by decide) rfl rfl (Nat.le_of_ble_eq_true rfl) dL_law_1229 (c_X11_redo  _ e6) ?_
  refine z_icmp_eq (tgt := 1628) cx (by decide) dL_law_1232 (fun c7 => ?_) (fun c7 => ?_)
  · have h := g_t c7 h
    exact q_weak (z_wk_s (z_wk_s (z_wk_s (z_wk_s (z_wk_0))))) (t_L_law_1628 n xs nx cx lx k18 hk18 x3 S5 h)
  · have h := g_f c7 h
    refine z_iconst (v := 0) cx (by decide +kernel) dL_law_1235 ?_
    exact absurd (g_some h).1 (by decide)
def f_L_law_1237 (n : Nat) (xs : Nat → Int32) (nx : Nat) (k18 : Int32 → z_Stt → Option (Bool × z_Stt)) (x3 : Int32) (S : z_Stt) : Option (Bool × z_Stt) :=
  if ¬ (x3 + 1 < 0 ∨ nx ≤ (x3 + 1).toNatClampNeg) then
    g_bd (f_X10_body (xs (x3 + 1).toNatClampNeg) S) fun v2 S3 =>
    if ¬ (x3 + 1 < 0 ∨ nx ≤ (x3 + 1).toNatClampNeg) then
      g_bd (f_X11_body (xs (x3 + 1).toNatClampNeg) S3) fun v6 S7 =>
      if v2 = v6 then
        f_L_law_1628 n xs nx k18 x3 S7
      else
        some (false, S7)
    else none
  else none
set_option maxHeartbeats 4000000 in
set_option maxRecDepth 100000 in
theorem t_L_law_1237 {g : z_G} {K : z_K} (n : Nat) (xs : Nat → Int32) (nx : Nat) {S' : z_Stt} (cx : z_C g M_L_law 1000 K) {b : Nat} (lx : z_LK K b nx xs) (k18 : Int32 → z_Stt → Option (Bool × z_Stt)) (hk18 : ∀ (x3 : Int32) (S : z_Stt), k18 x3 S = some (true, S') → z_At g M_L_law K 18 [some (.ref b), some (.ref (z_ad g 0)), some (.ref (z_ad g 48)), some (.int x3)] [] (hp g S)) (x3 : Int32) (S : z_Stt) (h : f_L_law_1237 n xs nx k18 x3 S = some (true, S')) : z_At g M_L_law K 1237 [some (.ref b), some (.ref (z_ad g 0)), some (.ref (z_ad g 48)), some (.int x3)] [] (hp g S) := by
  unfold f_L_law_1237 at h
  refine z_aload_n cx rfl rfl dL_law_1237 ?_
  refine z_aload_n cx rfl rfl dL_law_1238 ?_
  refine z_iload_n cx rfl rfl dL_law_1239 ?_
  refine z_iconst (v := 1) cx (by decide +kernel) dL_law_1240 ?_
  refine z_iadd cx dL_law_1241 ?_
  obtain ⟨c1, h⟩ := g_if h
  refine z_sld cx lx c1 dL_law_1242 ?_
  obtain ⟨v2, S3, e4, h⟩ := g_bd_ex h
  refine q_cvi (As := [.int (xs (x3 + 1).toNatClampNeg)]) cx mo_X10_body mv_X10_body z_cl10 rfl tb_1050 (by decide) rfl (by decide) rfl rfl (Nat.le_of_ble_eq_true rfl) dL_law_1243 (c_X10_body (xs (x3 + 1).toNatClampNeg) _ e4) ?_
  refine z_aload_n cx rfl rfl dL_law_1246 ?_
  refine z_aload_n cx rfl rfl dL_law_1247 ?_
  refine z_iload_n cx rfl rfl dL_law_1248 ?_
  refine z_iconst (v := 1) cx (by decide +kernel) dL_law_1249 ?_
  refine z_iadd cx dL_law_1250 ?_
  obtain ⟨c5, h⟩ := g_if h
  refine z_sld cx lx c5 dL_law_1251 ?_
  obtain ⟨v6, S7, e8, h⟩ := g_bd_ex h
  refine q_cvi (As := [.int (xs (x3 + 1).toNatClampNeg)]) cx mo_X11_body mv_X11_body z_cl11 rfl tb_1059 (by decide) rfl (by decide) rfl rfl (Nat.le_of_ble_eq_true rfl) dL_law_1252 (c_X11_body (xs (x3 + 1).toNatClampNeg) _ e8) ?_
  refine z_icmp_eq (tgt := 1628) cx (by decide) dL_law_1255 (fun c9 => ?_) (fun c9 => ?_)
  · have h := g_t c9 h
    exact q_weak (z_wk_s (z_wk_s (z_wk_s (z_wk_s (z_wk_0))))) (t_L_law_1628 n xs nx cx lx k18 hk18 x3 S7 h)
  · have h := g_f c9 h
    refine z_iconst (v := 0) cx (by decide +kernel) dL_law_1258 ?_
    exact absurd (g_some h).1 (by decide)
def f_L_law_1260 (n : Nat) (xs : Nat → Int32) (nx : Nat) (k18 : Int32 → z_Stt → Option (Bool × z_Stt)) (x3 : Int32) (S : z_Stt) : Option (Bool × z_Stt) :=
  if ¬ (x3 + 1 < 0 ∨ nx ≤ (x3 + 1).toNatClampNeg) then
    if ¬ (x3 + 2 < 0 ∨ nx ≤ (x3 + 2).toNatClampNeg) then
      if ¬ (x3 + 3 < 0 ∨ nx ≤ (x3 + 3).toNatClampNeg) then
        g_bd (f_X10_act n (xs (x3 + 1).toNatClampNeg) (xs (x3 + 2).toNatClampNeg) (xs (x3 + 3).toNatClampNeg) S) fun v4 S5 =>
        if ¬ (x3 + 1 < 0 ∨ nx ≤ (x3 + 1).toNatClampNeg) then
          if ¬ (x3 + 2 < 0 ∨ nx ≤ (x3 + 2).toNatClampNeg) then
            if ¬ (x3 + 3 < 0 ∨ nx ≤ (x3 + 3).toNatClampNeg) then
              g_bd (f_X11_act (xs (x3 + 1).toNatClampNeg) (xs (x3 + 2).toNatClampNeg) (xs (x3 + 3).toNatClampNeg) S5) fun v10 S11 =>
              if v4 = v10 then
                f_L_law_1628 n xs nx k18 x3 S11
              else
                some (false, S11)
            else none
          else none
        else none
      else none
    else none
  else none
set_option maxHeartbeats 4000000 in
set_option maxRecDepth 100000 in
theorem t_L_law_1260 {g : z_G} {K : z_K} (n : Nat) (xs : Nat → Int32) (nx : Nat) {S' : z_Stt} (cx : z_C g M_L_law 1000 K) {b : Nat} (lx : z_LK K b nx xs) (k18 : Int32 → z_Stt → Option (Bool × z_Stt)) (hk18 : ∀ (x3 : Int32) (S : z_Stt), k18 x3 S = some (true, S') → z_At g M_L_law K 18 [some (.ref b), some (.ref (z_ad g 0)), some (.ref (z_ad g 48)), some (.int x3)] [] (hp g S)) (x3 : Int32) (S : z_Stt) (h : f_L_law_1260 n xs nx k18 x3 S = some (true, S')) : z_At g M_L_law K 1260 [some (.ref b), some (.ref (z_ad g 0)), some (.ref (z_ad g 48)), some (.int x3)] [] (hp g S) := by
  unfold f_L_law_1260 at h
  refine z_aload_n cx rfl rfl dL_law_1260 ?_
  refine z_aload_n cx rfl rfl dL_law_1261 ?_
  refine z_iload_n cx rfl rfl dL_law_1262 ?_
  refine z_iconst (v := 1) cx (by decide +kernel) dL_law_1263 ?_
  refine z_iadd cx dL_law_1264 ?_
  obtain ⟨c1, h⟩ := g_if h
  refine z_sld cx lx c1 dL_law_1265 ?_
  refine z_aload_n cx rfl rfl dL_law_1266 ?_
  refine z_iload_n cx rfl rfl dL_law_1267 ?_
  refine z_iconst (v := 2) cx (by decide +kernel) dL_law_1268 ?_
  refine z_iadd cx dL_law_1269 ?_
  obtain ⟨c2, h⟩ := g_if h
  refine z_sld cx lx c2 dL_law_1270 ?_
  refine z_aload_n cx rfl rfl dL_law_1271 ?_
  refine z_iload_n cx rfl rfl dL_law_1272 ?_
  refine z_iconst (v := 3) cx (by decide +kernel) dL_law_1273 ?_
  refine z_iadd cx dL_law_1274 ?_
  obtain ⟨c3, h⟩ := g_if h
  refine z_sld cx lx c3 dL_law_1275 ?_
  obtain ⟨v4, S5, e6, h⟩ := g_bd_ex h
  refine q_cvi (As := [.int (xs (x3 + 1).toNatClampNeg), .int (xs (x3 + 2).toNatClampNeg), .int (xs (x3 + 3).toNatClampNeg)]) cx mo_X10_act mv_X10_act z_cl10 rfl tb_1064 (by decide) rfl (by decide) rfl rfl (Nat.le_of_ble_eq_true rfl) dL_law_1276 (c_X10_act (xs (x3 + 1).toNatClampNeg) (xs (x3 + 2).toNatClampNeg) (xs (x3 + 3).toNatClampNeg) _ e6) ?_
  refine z_aload_n cx rfl rfl dL_law_1279 ?_
  refine z_aload_n cx rfl rfl dL_law_1280 ?_
  refine z_iload_n cx rfl rfl dL_law_1281 ?_
  refine z_iconst (v := 1) cx (by decide +kernel) dL_law_1282 ?_
  refine z_iadd cx dL_law_1283 ?_
  obtain ⟨c7, h⟩ := g_if h
  refine z_sld cx lx c7 dL_law_1284 ?_
  refine z_aload_n cx rfl rfl dL_law_1285 ?_
  refine z_iload_n cx rfl rfl dL_law_1286 ?_
  refine z_iconst (v := 2) cx (by decide +kernel) dL_law_1287 ?_
  refine z_iadd cx dL_law_1288 ?_
  obtain ⟨c8, h⟩ := g_if h
  refine z_sld cx lx c8 dL_law_1289 ?_
  refine z_aload_n cx rfl rfl dL_law_1290 ?_
  refine z_iload_n cx rfl rfl dL_law_1291 ?_
  refine z_iconst (v := 3) cx (by decide +kernel) dL_law_1292 ?_
  refine z_iadd cx dL_law_1293 ?_
  obtain ⟨c9, h⟩ := g_if h
  refine z_sld cx lx c9 dL_law_1294 ?_
  obtain ⟨v10, S11, e12, h⟩ := g_bd_ex h
  refine q_cvi (As := [.int (xs (x3 + 1).toNatClampNeg), .int (xs (x3 + 2).toNatClampNeg), .int (xs (x3 + 3).toNatClampNeg)]) cx mo_X11_act mv_X11_act z_cl11 rfl tb_1094 (by decide) rfl (by decide) rfl rfl (Nat.le_of_ble_eq_true rfl) dL_law_1295 (c_X11_act (xs (x3 + 1).toNatClampNeg) (xs (x3 + 2).toNatClampNeg) (xs (x3 + 3).toNatClampNeg) _ e12) ?_
  refine z_icmp_eq (tgt := 1628) cx (by decide) dL_law_1298 (fun c13 => ?_) (fun c13 => ?_)
  · have h := g_t c13 h
    exact q_weak (z_wk_s (z_wk_s (z_wk_s (z_wk_s (z_wk_0))))) (t_L_law_1628 n xs nx cx lx k18 hk18 x3 S11 h)
  · have h := g_f c13 h
    refine z_iconst (v := 0) cx (by decide +kernel) dL_law_1301 ?_
    exact absurd (g_some h).1 (by decide)
def f_L_law_1303 (n : Nat) (xs : Nat → Int32) (nx : Nat) (k18 : Int32 → z_Stt → Option (Bool × z_Stt)) (x3 : Int32) (S : z_Stt) : Option (Bool × z_Stt) :=
  if ¬ (x3 + 1 < 0 ∨ nx ≤ (x3 + 1).toNatClampNeg) then
    g_bd (f_X10_trace (xs (x3 + 1).toNatClampNeg) S) fun v2 S3 =>
    if ¬ (x3 + 1 < 0 ∨ nx ≤ (x3 + 1).toNatClampNeg) then
      g_bd (f_X11_trace (xs (x3 + 1).toNatClampNeg) S3) fun v6 S7 =>
      if v2 = v6 then
        f_L_law_1628 n xs nx k18 x3 S7
      else
        some (false, S7)
    else none
  else none
set_option maxHeartbeats 4000000 in
set_option maxRecDepth 100000 in
theorem t_L_law_1303 {g : z_G} {K : z_K} (n : Nat) (xs : Nat → Int32) (nx : Nat) {S' : z_Stt} (cx : z_C g M_L_law 1000 K) {b : Nat} (lx : z_LK K b nx xs) (k18 : Int32 → z_Stt → Option (Bool × z_Stt)) (hk18 : ∀ (x3 : Int32) (S : z_Stt), k18 x3 S = some (true, S') → z_At g M_L_law K 18 [some (.ref b), some (.ref (z_ad g 0)), some (.ref (z_ad g 48)), some (.int x3)] [] (hp g S)) (x3 : Int32) (S : z_Stt) (h : f_L_law_1303 n xs nx k18 x3 S = some (true, S')) : z_At g M_L_law K 1303 [some (.ref b), some (.ref (z_ad g 0)), some (.ref (z_ad g 48)), some (.int x3)] [] (hp g S) := by
  unfold f_L_law_1303 at h
  refine z_aload_n cx rfl rfl dL_law_1303 ?_
  refine z_aload_n cx rfl rfl dL_law_1304 ?_
  refine z_iload_n cx rfl rfl dL_law_1305 ?_
  refine z_iconst (v := 1) cx (by decide +kernel) dL_law_1306 ?_
  refine z_iadd cx dL_law_1307 ?_
  obtain ⟨c1, h⟩ := g_if h
  refine z_sld cx lx c1 dL_law_1308 ?_
  obtain ⟨v2, S3, e4, h⟩ := g_bd_ex h
  refine q_cvi (As := [.int (xs (x3 + 1).toNatClampNeg)]) cx mo_X10_trace mv_X10_trace z_cl10 rfl tb_1125 (by decide) rfl (by decide) rfl rfl (Nat.le_of_ble_eq_true rfl) dL_law_1309 (c_X10_trace (xs (x3 + 1).toNatClampNeg) _ e4) ?_
  refine z_aload_n cx rfl rfl dL_law_1312 ?_
  refine z_aload_n cx rfl rfl dL_law_1313 ?_
  refine z_iload_n cx rfl rfl dL_law_1314 ?_
  refine z_iconst (v := 1) cx (by decide +kernel) dL_law_1315 ?_
  refine z_iadd cx dL_law_1316 ?_
  obtain ⟨c5, h⟩ := g_if h
  refine z_sld cx lx c5 dL_law_1317 ?_
  obtain ⟨v6, S7, e8, h⟩ := g_bd_ex h
  refine q_cvi (As := [.int (xs (x3 + 1).toNatClampNeg)]) cx mo_X11_trace mv_X11_trace z_cl11 rfl tb_1130 (by decide) rfl (by decide) rfl rfl (Nat.le_of_ble_eq_true rfl) dL_law_1318 (c_X11_trace (xs (x3 + 1).toNatClampNeg) _ e8) ?_
  refine z_icmp_eq (tgt := 1628) cx (by decide) dL_law_1321 (fun c9 => ?_) (fun c9 => ?_)
  · have h := g_t c9 h
    exact q_weak (z_wk_s (z_wk_s (z_wk_s (z_wk_s (z_wk_0))))) (t_L_law_1628 n xs nx cx lx k18 hk18 x3 S7 h)
  · have h := g_f c9 h
    refine z_iconst (v := 0) cx (by decide +kernel) dL_law_1324 ?_
    exact absurd (g_some h).1 (by decide)
def f_L_law_1326 (n : Nat) (xs : Nat → Int32) (nx : Nat) (k18 : Int32 → z_Stt → Option (Bool × z_Stt)) (x3 : Int32) (S : z_Stt) : Option (Bool × z_Stt) :=
  if ¬ (x3 + 1 < 0 ∨ nx ≤ (x3 + 1).toNatClampNeg) then
    if ¬ (x3 + 2 < 0 ∨ nx ≤ (x3 + 2).toNatClampNeg) then
      g_bd (f_X10_keep (xs (x3 + 1).toNatClampNeg) (xs (x3 + 2).toNatClampNeg) S) fun v3 S4 =>
      if ¬ (x3 + 1 < 0 ∨ nx ≤ (x3 + 1).toNatClampNeg) then
        if ¬ (x3 + 2 < 0 ∨ nx ≤ (x3 + 2).toNatClampNeg) then
          g_bd (f_X11_keep (xs (x3 + 1).toNatClampNeg) (xs (x3 + 2).toNatClampNeg) S4) fun v8 S9 =>
          if v3 = v8 then
            f_L_law_1628 n xs nx k18 x3 S9
          else
            some (false, S9)
        else none
      else none
    else none
  else none
set_option maxHeartbeats 4000000 in
set_option maxRecDepth 100000 in
theorem t_L_law_1326 {g : z_G} {K : z_K} (n : Nat) (xs : Nat → Int32) (nx : Nat) {S' : z_Stt} (cx : z_C g M_L_law 1000 K) {b : Nat} (lx : z_LK K b nx xs) (k18 : Int32 → z_Stt → Option (Bool × z_Stt)) (hk18 : ∀ (x3 : Int32) (S : z_Stt), k18 x3 S = some (true, S') → z_At g M_L_law K 18 [some (.ref b), some (.ref (z_ad g 0)), some (.ref (z_ad g 48)), some (.int x3)] [] (hp g S)) (x3 : Int32) (S : z_Stt) (h : f_L_law_1326 n xs nx k18 x3 S = some (true, S')) : z_At g M_L_law K 1326 [some (.ref b), some (.ref (z_ad g 0)), some (.ref (z_ad g 48)), some (.int x3)] [] (hp g S) := by
  unfold f_L_law_1326 at h
  refine z_aload_n cx rfl rfl dL_law_1326 ?_
  refine z_aload_n cx rfl rfl dL_law_1327 ?_
  refine z_iload_n cx rfl rfl dL_law_1328 ?_
  refine z_iconst (v := 1) cx (by decide +kernel) dL_law_1329 ?_
  refine z_iadd cx dL_law_1330 ?_
  obtain ⟨c1, h⟩ := g_if h
  refine z_sld cx lx c1 dL_law_1331 ?_
  refine z_aload_n cx rfl rfl dL_law_1332 ?_
  refine z_iload_n cx rfl rfl dL_law_1333 ?_
  refine z_iconst (v := 2) cx (by decide +kernel) dL_law_1334 ?_
  refine z_iadd cx dL_law_1335 ?_
  obtain ⟨c2, h⟩ := g_if h
  refine z_sld cx lx c2 dL_law_1336 ?_
  obtain ⟨v3, S4, e5, h⟩ := g_bd_ex h
  refine q_cvi (As := [.int (xs (x3 + 1).toNatClampNeg), .int (xs (x3 + 2).toNatClampNeg)]) cx mo_X10_keep mv_X10_keep z_cl10 rfl tb_1134 (by decide) rfl (by decide) rfl rfl (Nat.le_of_ble_eq_true rfl) dL_law_1337 (c_X10_keep (xs (x3 + 1).toNatClampNeg) (xs (x3 + 2).toNatClampNeg) _ e5) ?_
  refine z_aload_n cx rfl rfl dL_law_1340 ?_
  refine z_aload_n cx rfl rfl dL_law_1341 ?_
  refine z_iload_n cx rfl rfl dL_law_1342 ?_
  refine z_iconst (v := 1) cx (by decide +kernel) dL_law_1343 ?_
  refine z_iadd cx dL_law_1344 ?_
  obtain ⟨c6, h⟩ := g_if h
  refine z_sld cx lx c6 dL_law_1345 ?_
  refine z_aload_n cx rfl rfl dL_law_1346 ?_
  refine z_iload_n cx rfl rfl dL_law_1347 ?_
  refine z_iconst (v := 2) cx (by decide +kernel) dL_law_1348 ?_
  refine z_iadd cx dL_law_1349 ?_
  obtain ⟨c7, h⟩ := g_if h
  refine z_sld cx lx c7 dL_law_1350 ?_
  obtain ⟨v8, S9, e10, h⟩ := g_bd_ex h
  refine q_cvi (As := [.int (xs (x3 + 1).toNatClampNeg), .int (xs (x3 + 2).toNatClampNeg)]) cx mo_X11_keep mv_X11_keep z_cl11 rfl tb_1142 (by decide) rfl (by decide) rfl rfl (Nat.le_of_ble_eq_true rfl) dL_law_1351 (c_X11_keep (xs (x3 + 1).toNatClampNeg) (xs (x3 + 2).toNatClampNeg) _ e10) ?_
  refine z_icmp_eq (tgt := 1628) cx (by decide) dL_law_1354 (fun c11 => ?_) (fun c11 => ?_)
  · have h := g_t c11 h
    exact q_weak (z_wk_s (z_wk_s (z_wk_s (z_wk_s (z_wk_0))))) (t_L_law_1628 n xs nx cx lx k18 hk18 x3 S9 h)
  · have h := g_f c11 h
    refine z_iconst (v := 0) cx (by decide +kernel) dL_law_1357 ?_
    exact absurd (g_some h).1 (by decide)
def f_L_law_1359 (n : Nat) (xs : Nat → Int32) (nx : Nat) (k18 : Int32 → z_Stt → Option (Bool × z_Stt)) (x3 : Int32) (S : z_Stt) : Option (Bool × z_Stt) :=
  if ¬ (x3 + 1 < 0 ∨ nx ≤ (x3 + 1).toNatClampNeg) then
    if ¬ (x3 + 2 < 0 ∨ nx ≤ (x3 + 2).toNatClampNeg) then
      if ¬ (x3 + 3 < 0 ∨ nx ≤ (x3 + 3).toNatClampNeg) then
        g_bd (f_X10_row n (xs (x3 + 1).toNatClampNeg) (xs (x3 + 2).toNatClampNeg) (xs (x3 + 3).toNatClampNeg) S) fun v4 S5 =>
        if ¬ (x3 + 1 < 0 ∨ nx ≤ (x3 + 1).toNatClampNeg) then
          if ¬ (x3 + 2 < 0 ∨ nx ≤ (x3 + 2).toNatClampNeg) then
            if ¬ (x3 + 3 < 0 ∨ nx ≤ (x3 + 3).toNatClampNeg) then
              g_bd (f_X11_row n (xs (x3 + 1).toNatClampNeg) (xs (x3 + 2).toNatClampNeg) (xs (x3 + 3).toNatClampNeg) S5) fun v10 S11 =>
              if v4 = v10 then
                f_L_law_1628 n xs nx k18 x3 S11
              else
                some (false, S11)
            else none
          else none
        else none
      else none
    else none
  else none
set_option maxHeartbeats 4000000 in
set_option maxRecDepth 100000 in
theorem t_L_law_1359 {g : z_G} {K : z_K} (n : Nat) (xs : Nat → Int32) (nx : Nat) {S' : z_Stt} (cx : z_C g M_L_law 1000 K) {b : Nat} (lx : z_LK K b nx xs) (k18 : Int32 → z_Stt → Option (Bool × z_Stt)) (hk18 : ∀ (x3 : Int32) (S : z_Stt), k18 x3 S = some (true, S') → z_At g M_L_law K 18 [some (.ref b), some (.ref (z_ad g 0)), some (.ref (z_ad g 48)), some (.int x3)] [] (hp g S)) (x3 : Int32) (S : z_Stt) (h : f_L_law_1359 n xs nx k18 x3 S = some (true, S')) : z_At g M_L_law K 1359 [some (.ref b), some (.ref (z_ad g 0)), some (.ref (z_ad g 48)), some (.int x3)] [] (hp g S) := by
  unfold f_L_law_1359 at h
  refine z_aload_n cx rfl rfl dL_law_1359 ?_
  refine z_aload_n cx rfl rfl dL_law_1360 ?_
  refine z_iload_n cx rfl rfl dL_law_1361 ?_
  refine z_iconst (v := 1) cx (by decide +kernel) dL_law_1362 ?_
  refine z_iadd cx dL_law_1363 ?_
  obtain ⟨c1, h⟩ := g_if h
  refine z_sld cx lx c1 dL_law_1364 ?_
  refine z_aload_n cx rfl rfl dL_law_1365 ?_
  refine z_iload_n cx rfl rfl dL_law_1366 ?_
  refine z_iconst (v := 2) cx (by decide +kernel) dL_law_1367 ?_
  refine z_iadd cx dL_law_1368 ?_
  obtain ⟨c2, h⟩ := g_if h
  refine z_sld cx lx c2 dL_law_1369 ?_
  refine z_aload_n cx rfl rfl dL_law_1370 ?_
  refine z_iload_n cx rfl rfl dL_law_1371 ?_
  refine z_iconst (v := 3) cx (by decide +kernel) dL_law_1372 ?_
  refine z_iadd cx dL_law_1373 ?_
  obtain ⟨c3, h⟩ := g_if h
  refine z_sld cx lx c3 dL_law_1374 ?_
  obtain ⟨v4, S5, e6, h⟩ := g_bd_ex h
  refine q_cvi (As := [.int (xs (x3 + 1).toNatClampNeg), .int (xs (x3 + 2).toNatClampNeg), .int (xs (x3 + 3).toNatClampNeg)]) cx mo_X10_row mv_X10_row z_cl10 rfl tb_1146 (by decide) rfl (by decide) rfl rfl (Nat.le_of_ble_eq_true rfl) dL_law_1375 (c_X10_row (xs (x3 + 1).toNatClampNeg) (xs (x3 + 2).toNatClampNeg) (xs (x3 + 3).toNatClampNeg) _ e6) ?_
  refine z_aload_n cx rfl rfl dL_law_1378 ?_
  refine z_aload_n cx rfl rfl dL_law_1379 ?_
  refine z_iload_n cx rfl rfl dL_law_1380 ?_
  refine z_iconst (v := 1) cx (by decide +kernel) dL_law_1381 ?_
  refine z_iadd cx dL_law_1382 ?_
  obtain ⟨c7, h⟩ := g_if h
  refine z_sld cx lx c7 dL_law_1383 ?_
  refine z_aload_n cx rfl rfl dL_law_1384 ?_
  refine z_iload_n cx rfl rfl dL_law_1385 ?_
  refine z_iconst (v := 2) cx (by decide +kernel) dL_law_1386 ?_
  refine z_iadd cx dL_law_1387 ?_
  obtain ⟨c8, h⟩ := g_if h
  refine z_sld cx lx c8 dL_law_1388 ?_
  refine z_aload_n cx rfl rfl dL_law_1389 ?_
  refine z_iload_n cx rfl rfl dL_law_1390 ?_
  refine z_iconst (v := 3) cx (by decide +kernel) dL_law_1391 ?_
  refine z_iadd cx dL_law_1392 ?_
  obtain ⟨c9, h⟩ := g_if h
  refine z_sld cx lx c9 dL_law_1393 ?_
  obtain ⟨v10, S11, e12, h⟩ := g_bd_ex h
  refine q_cvi (As := [.int (xs (x3 + 1).toNatClampNeg), .int (xs (x3 + 2).toNatClampNeg), .int (xs (x3 + 3).toNatClampNeg)]) cx mo_X11_row mv_X11_row z_cl11 rfl tb_1154 (by decide) rfl (by decide) rfl rfl (Nat.le_of_ble_eq_true rfl) dL_law_1394 (c_X11_row (xs (x3 + 1).toNatClampNeg) (xs (x3 + 2).toNatClampNeg) (xs (x3 + 3).toNatClampNeg) _ e12) ?_
  refine z_icmp_eq (tgt := 1628) cx (by decide) dL_law_1397 (fun c13 => ?_) (fun c13 => ?_)
  · have h := g_t c13 h
    exact q_weak (z_wk_s (z_wk_s (z_wk_s (z_wk_s (z_wk_0))))) (t_L_law_1628 n xs nx cx lx k18 hk18 x3 S11 h)
  · have h := g_f c13 h
    refine z_iconst (v := 0) cx (by decide +kernel) dL_law_1400 ?_
    exact absurd (g_some h).1 (by decide)
def f_L_law_1402 (n : Nat) (xs : Nat → Int32) (nx : Nat) (k18 : Int32 → z_Stt → Option (Bool × z_Stt)) (x3 : Int32) (S : z_Stt) : Option (Bool × z_Stt) :=
  if ¬ (x3 + 1 < 0 ∨ nx ≤ (x3 + 1).toNatClampNeg) then
    if ¬ (x3 + 2 < 0 ∨ nx ≤ (x3 + 2).toNatClampNeg) then
      if ¬ (x3 + 3 < 0 ∨ nx ≤ (x3 + 3).toNatClampNeg) then
        if ¬ (x3 + 4 < 0 ∨ nx ≤ (x3 + 4).toNatClampNeg) then
          g_bd (f_X10_put (xs (x3 + 1).toNatClampNeg) (xs (x3 + 2).toNatClampNeg) (((Int32.toInt64 (xs (x3 + 3).toNatClampNeg)) <<< ((Int32.toInt64 32) &&& 63)) ||| ((Int32.toInt64 (xs (x3 + 4).toNatClampNeg)) &&& 4294967295)) S) fun v5 S6 =>
          if ¬ (x3 + 1 < 0 ∨ nx ≤ (x3 + 1).toNatClampNeg) then
            if ¬ (x3 + 2 < 0 ∨ nx ≤ (x3 + 2).toNatClampNeg) then
              if ¬ (x3 + 3 < 0 ∨ nx ≤ (x3 + 3).toNatClampNeg) then
                if ¬ (x3 + 4 < 0 ∨ nx ≤ (x3 + 4).toNatClampNeg) then
                  g_bd (f_X11_put (xs (x3 + 1).toNatClampNeg) (xs (x3 + 2).toNatClampNeg) (((Int32.toInt64 (xs (x3 + 3).toNatClampNeg)) <<< ((Int32.toInt64 32) &&& 63)) ||| ((Int32.toInt64 (xs (x3 + 4).toNatClampNeg)) &&& 4294967295)) S6) fun v12 S13 =>
                  if v5 = v12 then
                    f_L_law_1628 n xs nx k18 x3 S13
                  else
                    some (false, S13)
                else none
              else none
            else none
          else none
        else none
      else none
    else none
  else none
set_option maxHeartbeats 4000000 in
set_option maxRecDepth 100000 in
theorem t_L_law_1402 {g : z_G} {K : z_K} (n : Nat) (xs : Nat → Int32) (nx : Nat) {S' : z_Stt} (cx : z_C g M_L_law 1000 K) {b : Nat} (lx : z_LK K b nx xs) (k18 : Int32 → z_Stt → Option (Bool × z_Stt)) (hk18 : ∀ (x3 : Int32) (S : z_Stt), k18 x3 S = some (true, S') → z_At g M_L_law K 18 [some (.ref b), some (.ref (z_ad g 0)), some (.ref (z_ad g 48)), some (.int x3)] [] (hp g S)) (x3 : Int32) (S : z_Stt) (h : f_L_law_1402 n xs nx k18 x3 S = some (true, S')) : z_At g M_L_law K 1402 [some (.ref b), some (.ref (z_ad g 0)), some (.ref (z_ad g 48)), some (.int x3)] [] (hp g S) := by
  unfold f_L_law_1402 at h
  refine z_aload_n cx rfl rfl dL_law_1402 ?_
  refine z_aload_n cx rfl rfl dL_law_1403 ?_
  refine z_iload_n cx rfl rfl dL_law_1404 ?_
  refine z_iconst (v := 1) cx (by decide +kernel) dL_law_1405 ?_
  refine z_iadd cx dL_law_1406 ?_
  obtain ⟨c1, h⟩ := g_if h
  refine z_sld cx lx c1 dL_law_1407 ?_
  refine z_aload_n cx rfl rfl dL_law_1408 ?_
  refine z_iload_n cx rfl rfl dL_law_1409 ?_
  refine z_iconst (v := 2) cx (by decide +kernel) dL_law_1410 ?_
  refine z_iadd cx dL_law_1411 ?_
  obtain ⟨c2, h⟩ := g_if h
  refine z_sld cx lx c2 dL_law_1412 ?_
  refine z_aload_n cx rfl rfl dL_law_1413 ?_
  refine z_iload_n cx rfl rfl dL_law_1414 ?_
  refine z_iconst (v := 3) cx (by decide +kernel) dL_law_1415 ?_
  refine z_iadd cx dL_law_1416 ?_
  obtain ⟨c3, h⟩ := g_if h
  refine z_sld cx lx c3 dL_law_1417 ?_
  refine z_i2l cx dL_law_1418 ?_
  refine z_bipush (v := 32) cx (by decide +kernel) dL_law_1419 ?_
  refine z_lshl cx rfl dL_law_1421 ?_
  refine z_aload_n cx rfl rfl dL_law_1422 ?_
  refine z_iload_n cx rfl rfl dL_law_1423 ?_
  refine z_iconst (v := 4) cx (by decide +kernel) dL_law_1424 ?_
  refine z_iadd cx dL_law_1425 ?_
  obtain ⟨c4, h⟩ := g_if h
  refine z_sld cx lx c4 dL_law_1426 ?_
  refine z_i2l cx dL_law_1427 ?_
  refine z_ldc2 cx tb_6 dL_law_1428 ?_
  refine z_land cx dL_law_1431 ?_
  refine z_lor cx dL_law_1432 ?_
  obtain ⟨v5, S6, e7, h⟩ := g_bd_ex h
  refine q_cvi (As := [.int (xs (x3 + 1).toNatClampNeg), .int (xs (x3 + 2).toNatClampNeg), .long (((Int32.toInt64 (xs (x3 + 3).toNatClampNeg)) <<< ((Int32.toInt64 32) &&& 63)) ||| ((Int32.toInt64 (xs (x3 + 4).toNatClampNeg)) &&& 4294967295))]) cx mo_X10_put mv_X10_put z_cl10 rfl tb_1158 (by decide) rfl (by decide) rfl rfl (Nat.le_of_ble_eq_true rfl) dL_law_1433 (c_X10_put (xs (x3 + 1).toNatClampNeg) (xs (x3 + 2).toNatClampNeg) (((Int32.toInt64 (xs (x3 + 3).toNatClampNeg)) <<< ((Int32.toInt64 32) &&& 63)) ||| ((Int32.toInt64 (xs (x3 + 4).toNatClampNeg)) &&& 4294967295)) _ e7) ?_
  refine z_aload_n cx rfl rfl dL_law_1436 ?_
  refine z_aload_n cx rfl rfl dL_law_1437 ?_
  refine z_iload_n cx rfl rfl dL_law_1438 ?_
  refine z_iconst (v := 1) cx (by decide +kernel) dL_law_1439 ?_
  refine z_iadd cx dL_law_1440 ?_
  obtain ⟨c8, h⟩ := g_if h
  refine z_sld cx lx c8 dL_law_1441 ?_
  refine z_aload_n cx rfl rfl dL_law_1442 ?_
  refine z_iload_n cx rfl rfl dL_law_1443 ?_
  refine z_iconst (v := 2) cx (by decide +kernel) dL_law_1444 ?_
  refine z_iadd cx dL_law_1445 ?_
  obtain ⟨c9, h⟩ := g_if h
  refine z_sld cx lx c9 dL_law_1446 ?_
  refine z_aload_n cx rfl rfl dL_law_1447 ?_
  refine z_iload_n cx rfl rfl dL_law_1448 ?_
  refine z_iconst (v := 3) cx (by decide +kernel) dL_law_1449 ?_
  refine z_iadd cx dL_law_1450 ?_
  obtain ⟨c10, h⟩ := g_if h
  refine z_sld cx lx c10 dL_law_1451 ?_
  refine z_i2l cx dL_law_1452 ?_
  refine z_bipush (v := 32) cx (by decide +kernel) dL_law_1453 ?_
  refine z_lshl cx rfl dL_law_1455 ?_
  refine z_aload_n cx rfl rfl dL_law_1456 ?_
  refine z_iload_n cx rfl rfl dL_law_1457 ?_
  refine z_iconst (v := 4) cx (by decide +kernel) dL_law_1458 ?_
  refine z_iadd cx dL_law_1459 ?_
  obtain ⟨c11, h⟩ := g_if h
  refine z_sld cx lx c11 dL_law_1460 ?_
  refine z_i2l cx dL_law_1461 ?_
  refine z_ldc2 cx tb_6 dL_law_1462 ?_
  refine z_land cx dL_law_1465 ?_
  refine z_lor cx dL_law_1466 ?_
  obtain ⟨v12, S13, e14, h⟩ := g_bd_ex h
  refine q_cvi (As := [.int (xs (x3 + 1).toNatClampNeg), .int (xs (x3 + 2).toNatClampNeg), .long (((Int32.toInt64 (xs (x3 + 3).toNatClampNeg)) <<< ((Int32.toInt64 32) &&& 63)) ||| ((Int32.toInt64 (xs (x3 + 4).toNatClampNeg)) &&& 4294967295))]) cx mo_X11_put mv_X11_put z_cl11 rfl tb_1178 (by decide) rfl (by decide) rfl rfl (Nat.le_of_ble_eq_true rfl) dL_law_1467 (c_X11_put (xs (x3 + 1).toNatClampNeg) (xs (x3 + 2).toNatClampNeg) (((Int32.toInt64 (xs (x3 + 3).toNatClampNeg)) <<< ((Int32.toInt64 32) &&& 63)) ||| ((Int32.toInt64 (xs (x3 + 4).toNatClampNeg)) &&& 4294967295)) _ e14) ?_
  refine z_icmp_eq (tgt := 1628) cx (by decide) dL_law_1470 (fun c15 => ?_) (fun c15 => ?_)
  · have h := g_t c15 h
    exact q_weak (z_wk_s (z_wk_s (z_wk_s (z_wk_s (z_wk_0))))) (t_L_law_1628 n xs nx cx lx k18 hk18 x3 S13 h)
  · have h := g_f c15 h
    refine z_iconst (v := 0) cx (by decide +kernel) dL_law_1473 ?_
    exact absurd (g_some h).1 (by decide)
def f_L_law_1475 (n : Nat) (xs : Nat → Int32) (nx : Nat) (k18 : Int32 → z_Stt → Option (Bool × z_Stt)) (x3 : Int32) (S : z_Stt) : Option (Bool × z_Stt) :=
  if ¬ (x3 + 1 < 0 ∨ nx ≤ (x3 + 1).toNatClampNeg) then
    if ¬ (x3 + 2 < 0 ∨ nx ≤ (x3 + 2).toNatClampNeg) then
      g_bd (f_X10_element (xs (x3 + 1).toNatClampNeg) (xs (x3 + 2).toNatClampNeg) S) fun v3 S4 =>
      if ¬ (x3 + 1 < 0 ∨ nx ≤ (x3 + 1).toNatClampNeg) then
        if ¬ (x3 + 2 < 0 ∨ nx ≤ (x3 + 2).toNatClampNeg) then
          g_bd (f_X11_element (xs (x3 + 1).toNatClampNeg) (xs (x3 + 2).toNatClampNeg) S4) fun v8 S9 =>
          if lg_cmp v3 v8 = 0 then
            f_L_law_1628 n xs nx k18 x3 S9
          else
            some (false, S9)
        else none
      else none
    else none
  else none
set_option maxHeartbeats 4000000 in
set_option maxRecDepth 100000 in
theorem t_L_law_1475 {g : z_G} {K : z_K} (n : Nat) (xs : Nat → Int32) (nx : Nat) {S' : z_Stt} (cx : z_C g M_L_law 1000 K) {b : Nat} (lx : z_LK K b nx xs) (k18 : Int32 → z_Stt → Option (Bool × z_Stt)) (hk18 : ∀ (x3 : Int32) (S : z_Stt), k18 x3 S = some (true, S') → z_At g M_L_law K 18 [some (.ref b), some (.ref (z_ad g 0)), some (.ref (z_ad g 48)), some (.int x3)] [] (hp g S)) (x3 : Int32) (S : z_Stt) (h : f_L_law_1475 n xs nx k18 x3 S = some (true, S')) : z_At g M_L_law K 1475 [some (.ref b), some (.ref (z_ad g 0)), some (.ref (z_ad g 48)), some (.int x3)] [] (hp g S) := by
  unfold f_L_law_1475 at h
  refine z_aload_n cx rfl rfl dL_law_1475 ?_
  refine z_aload_n cx rfl rfl dL_law_1476 ?_
  refine z_iload_n cx rfl rfl dL_law_1477 ?_
  refine z_iconst (v := 1) cx (by decide +kernel) dL_law_1478 ?_
  refine z_iadd cx dL_law_1479 ?_
  obtain ⟨c1, h⟩ := g_if h
  refine z_sld cx lx c1 dL_law_1480 ?_
  refine z_aload_n cx rfl rfl dL_law_1481 ?_
  refine z_iload_n cx rfl rfl dL_law_1482 ?_
  refine z_iconst (v := 2) cx (by decide +kernel) dL_law_1483 ?_
  refine z_iadd cx dL_law_1484 ?_
  obtain ⟨c2, h⟩ := g_if h
  refine z_sld cx lx c2 dL_law_1485 ?_
  obtain ⟨v3, S4, e5, h⟩ := g_bd_ex h
  refine q_cvl (As := [.int (xs (x3 + 1).toNatClampNeg), .int (xs (x3 + 2).toNatClampNeg)]) cx mo_X10_element mv_X10_element z_cl10 rfl tb_1189 (by decide) rfl (by decide) rfl rfl (Nat.le_of_ble_eq_true rfl) dL_law_1486 (c_X10_element (xs (x3 + 1).toNatClampNeg) (xs (x3 + 2).toNatClampNeg) _ e5) ?_
  refine z_aload_n cx rfl rfl dL_law_1489 ?_
  refine z_aload_n cx rfl rfl dL_law_1490 ?_
  refine z_iload_n cx rfl rfl dL_law_1491 ?_
  refine z_iconst (v := 1) cx (by decide +kernel) dL_law_1492 ?_
  refine z_iadd cx dL_law_1493 ?_
  obtain ⟨c6, h⟩ := g_if h
  refine z_sld cx lx c6 dL_law_1494 ?_
  refine z_aload_n cx rfl rfl dL_law_1495 ?_
  refine z_iload_n cx rfl rfl dL_law_1496 ?_
  refine z_iconst (v := 2) cx (by decide +kernel) dL_law_1497 ?_
  refine z_iadd cx dL_law_1498 ?_
  obtain ⟨c7, h⟩ := g_if h
  refine z_sld cx lx c7 dL_law_1499 ?_
  obtain ⟨v8, S9, e10, h⟩ := g_bd_ex h
  refine q_cvl (As := [.int (xs (x3 + 1).toNatClampNeg), .int (xs (x3 + 2).toNatClampNeg)]) cx mo_X11_element mv_X11_element z_cl11 rfl tb_1193 (by decide) rfl (by decide) rfl rfl (Nat.le_of_ble_eq_true rfl) dL_law_1500 (c_X11_element (xs (x3 + 1).toNatClampNeg) (xs (x3 + 2).toNatClampNeg) _ e10) ?_
  refine z_lcmp cx dL_law_1503 ?_
  refine z_if_eq (tgt := 1628) cx (by decide) dL_law_1504 (fun c11 => ?_) (fun c11 => ?_)
  · have h := g_t c11 h
    exact q_weak (z_wk_s (z_wk_s (z_wk_s (z_wk_s (z_wk_0))))) (t_L_law_1628 n xs nx cx lx k18 hk18 x3 S9 h)
  · have h := g_f c11 h
    refine z_iconst (v := 0) cx (by decide +kernel) dL_law_1507 ?_
    exact absurd (g_some h).1 (by decide)
def f_L_law_1509 (n : Nat) (xs : Nat → Int32) (nx : Nat) (k18 : Int32 → z_Stt → Option (Bool × z_Stt)) (x3 : Int32) (S : z_Stt) : Option (Bool × z_Stt) :=
  if ¬ (x3 + 1 < 0 ∨ nx ≤ (x3 + 1).toNatClampNeg) then
    if ¬ (x3 + 2 < 0 ∨ nx ≤ (x3 + 2).toNatClampNeg) then
      if ¬ (x3 + 3 < 0 ∨ nx ≤ (x3 + 3).toNatClampNeg) then
        if ¬ (x3 + 4 < 0 ∨ nx ≤ (x3 + 4).toNatClampNeg) then
          if ¬ (x3 + 5 < 0 ∨ nx ≤ (x3 + 5).toNatClampNeg) then
            g_bd (f_X10_shift (xs (x3 + 1).toNatClampNeg) (xs (x3 + 2).toNatClampNeg) (xs (x3 + 3).toNatClampNeg) (xs (x3 + 4).toNatClampNeg) (xs (x3 + 5).toNatClampNeg) S) fun v6 S7 =>
            if ¬ (x3 + 1 < 0 ∨ nx ≤ (x3 + 1).toNatClampNeg) then
              if ¬ (x3 + 2 < 0 ∨ nx ≤ (x3 + 2).toNatClampNeg) then
                if ¬ (x3 + 3 < 0 ∨ nx ≤ (x3 + 3).toNatClampNeg) then
                  if ¬ (x3 + 4 < 0 ∨ nx ≤ (x3 + 4).toNatClampNeg) then
                    if ¬ (x3 + 5 < 0 ∨ nx ≤ (x3 + 5).toNatClampNeg) then
                      g_bd (f_X11_shift n (xs (x3 + 1).toNatClampNeg) (xs (x3 + 2).toNatClampNeg) (xs (x3 + 3).toNatClampNeg) (xs (x3 + 4).toNatClampNeg) (xs (x3 + 5).toNatClampNeg) S7) fun v14 S15 =>
                      if v6 = v14 then
                        f_L_law_1628 n xs nx k18 x3 S15
                      else
                        some (false, S15)
                    else none
                  else none
                else none
              else none
            else none
          else none
        else none
      else none
    else none
  else none
set_option maxHeartbeats 4000000 in
set_option maxRecDepth 100000 in
theorem t_L_law_1509 {g : z_G} {K : z_K} (n : Nat) (xs : Nat → Int32) (nx : Nat) {S' : z_Stt} (cx : z_C g M_L_law 1000 K) {b : Nat} (lx : z_LK K b nx xs) (k18 : Int32 → z_Stt → Option (Bool × z_Stt)) (hk18 : ∀ (x3 : Int32) (S : z_Stt), k18 x3 S = some (true, S') → z_At g M_L_law K 18 [some (.ref b), some (.ref (z_ad g 0)), some (.ref (z_ad g 48)), some (.int x3)] [] (hp g S)) (x3 : Int32) (S : z_Stt) (h : f_L_law_1509 n xs nx k18 x3 S = some (true, S')) : z_At g M_L_law K 1509 [some (.ref b), some (.ref (z_ad g 0)), some (.ref (z_ad g 48)), some (.int x3)] [] (hp g S) := by
  unfold f_L_law_1509 at h
  refine z_aload_n cx rfl rfl dL_law_1509 ?_
  refine z_aload_n cx rfl rfl dL_law_1510 ?_
  refine z_iload_n cx rfl rfl dL_law_1511 ?_
  refine z_iconst (v := 1) cx (by decide +kernel) dL_law_1512 ?_
  refine z_iadd cx dL_law_1513 ?_
  obtain ⟨c1, h⟩ := g_if h
  refine z_sld cx lx c1 dL_law_1514 ?_
  refine z_aload_n cx rfl rfl dL_law_1515 ?_
  refine z_iload_n cx rfl rfl dL_law_1516 ?_
  refine z_iconst (v := 2) cx (by decide +kernel) dL_law_1517 ?_
  refine z_iadd cx dL_law_1518 ?_
  obtain ⟨c2, h⟩ := g_if h
  refine z_sld cx lx c2 dL_law_1519 ?_
  refine z_aload_n cx rfl rfl dL_law_1520 ?_
  refine z_iload_n cx rfl rfl dL_law_1521 ?_
  refine z_iconst (v := 3) cx (by decide +kernel) dL_law_1522 ?_
  refine z_iadd cx dL_law_1523 ?_
  obtain ⟨c3, h⟩ := g_if h
  refine z_sld cx lx c3 dL_law_1524 ?_
  refine z_aload_n cx rfl rfl dL_law_1525 ?_
  refine z_iload_n cx rfl rfl dL_law_1526 ?_
  refine z_iconst (v := 4) cx (by decide +kernel) dL_law_1527 ?_
  refine z_iadd cx dL_law_1528 ?_
  obtain ⟨c4, h⟩ := g_if h
  refine z_sld cx lx c4 dL_law_1529 ?_
  refine z_aload_n cx rfl rfl dL_law_1530 ?_
  refine z_iload_n cx rfl rfl dL_law_1531 ?_
  refine z_iconst (v := 5) cx (by decide +kernel) dL_law_1532 ?_
  refine z_iadd cx dL_law_1533 ?_
  obtain ⟨c5, h⟩ := g_if h
  refine z_sld cx lx c5 dL_law_1534 ?_
  obtain ⟨v6, S7, e8, h⟩ := g_bd_ex h
  refine q_cvi (As := [.int (xs (x3 + 1).toNatClampNeg), .int (xs (x3 + 2).toNatClampNeg), .int (xs (x3 + 3).toNatClampNeg), .int (xs (x3 + 4).toNatClampNeg), .int (xs (x3 + 5).toNatClampNeg)]) cx mo_X10_shift mv_X10_shift z_cl10 rfl tb_1197 (by decide) rfl (by decide) rfl rfl (Nat.le_of_ble_eq_true rfl) dL_law_1535 (c_X10_shift (xs (x3 + 1).toNatClampNeg) (xs (x3 + 2).toNatClampNeg) (xs (x3 + 3).toNatClampNeg) (xs (x3 + 4).toNatClampNeg) (xs (x3 + 5).toNatClampNeg) _ e8) ?_
  refine z_aload_n cx rfl rfl dL_law_1538 ?_
  refine z_aload_n cx rfl rfl dL_law_1539 ?_
  refine z_iload_n cx rfl rfl dL_law_1540 ?_
  refine z_iconst (v := 1) cx (by decide +kernel) dL_law_1541 ?_
  refine z_iadd cx dL_law_1542 ?_
  obtain ⟨c9, h⟩ := g_if h
  refine z_sld cx lx c9 dL_law_1543 ?_
  refine z_aload_n cx rfl rfl dL_law_1544 ?_
  refine z_iload_n cx rfl rfl dL_law_1545 ?_
  refine z_iconst (v := 2) cx (by decide +kernel) dL_law_1546 ?_
  refine z_iadd cx dL_law_1547 ?_
  obtain ⟨c10, h⟩ := g_if h
  refine z_sld cx lx c10 dL_law_1548 ?_
  refine z_aload_n cx rfl rfl dL_law_1549 ?_
  refine z_iload_n cx rfl rfl dL_law_1550 ?_
  refine z_iconst (v := 3) cx (by decide +kernel) dL_law_1551 ?_
  refine z_iadd cx dL_law_1552 ?_
  obtain ⟨c11, h⟩ := g_if h
  refine z_sld cx lx c11 dL_law_1553 ?_
  refine z_aload_n cx rfl rfl dL_law_1554 ?_
  refine z_iload_n cx rfl rfl dL_law_1555 ?_
  refine z_iconst (v := 4) cx (by decide +kernel) dL_law_1556 ?_
  refine z_iadd cx dL_law_1557 ?_
  obtain ⟨c12, h⟩ := g_if h
  refine z_sld cx lx c12 dL_law_1558 ?_
  refine z_aload_n cx rfl rfl dL_law_1559 ?_
  refine z_iload_n cx rfl rfl dL_law_1560 ?_
  refine z_iconst (v := 5) cx (by decide +kernel) dL_law_1561 ?_
  refine z_iadd cx dL_law_1562 ?_
  obtain ⟨c13, h⟩ := g_if h
  refine z_sld cx lx c13 dL_law_1563 ?_
  obtain ⟨v14, S15, e16, h⟩ := g_bd_ex h
  refine q_cvi (As := [.int (xs (x3 + 1).toNatClampNeg), .int (xs (x3 + 2).toNatClampNeg), .int (xs (x3 + 3).toNatClampNeg), .int (xs (x3 + 4).toNatClampNeg), .int (xs (x3 + 5).toNatClampNeg)]) cx mo_X11_shift mv_X11_shift z_cl11 rfl tb_1208 (by decide) rfl (by decide) rfl rfl (Nat.le_of_ble_eq_true rfl) dL_law_1564 (c_X11_shift (xs (x3 + 1).toNatClampNeg) (xs (x3 + 2).toNatClampNeg) (xs (x3 + 3).toNatClampNeg) (xs (x3 + 4).toNatClampNeg) (xs (x3 + 5).toNatClampNeg) _ e16) ?_
  refine z_icmp_eq (tgt := 1628) cx (by decide) dL_law_1567 (fun c17 => ?_) (fun c17 => ?_)
  · have h := g_t c17 h
    exact q_weak (z_wk_s (z_wk_s (z_wk_s (z_wk_s (z_wk_0))))) (t_L_law_1628 n xs nx cx lx k18 hk18 x3 S15 h)
  · have h := g_f c17 h
    refine z_iconst (v := 0) cx (by decide +kernel) dL_law_1570 ?_
    exact absurd (g_some h).1 (by decide)
def f_L_law_1572 (n : Nat) (xs : Nat → Int32) (nx : Nat) (k18 : Int32 → z_Stt → Option (Bool × z_Stt)) (x3 : Int32) (S : z_Stt) : Option (Bool × z_Stt) :=
  if ¬ (x3 + 1 < 0 ∨ nx ≤ (x3 + 1).toNatClampNeg) then
    if ¬ (x3 + 2 < 0 ∨ nx ≤ (x3 + 2).toNatClampNeg) then
      g_bd (f_X10_taken n (xs (x3 + 1).toNatClampNeg) (xs (x3 + 2).toNatClampNeg) S) fun v3 S4 =>
      if ¬ (x3 + 1 < 0 ∨ nx ≤ (x3 + 1).toNatClampNeg) then
        if ¬ (x3 + 2 < 0 ∨ nx ≤ (x3 + 2).toNatClampNeg) then
          g_bd (f_X11_taken n (xs (x3 + 1).toNatClampNeg) (xs (x3 + 2).toNatClampNeg) S4) fun v8 S9 =>
          if v3 = v8 then
            f_L_law_1628 n xs nx k18 x3 S9
          else
            some (false, S9)
        else none
      else none
    else none
  else none
set_option maxHeartbeats 4000000 in
set_option maxRecDepth 100000 in
theorem t_L_law_1572 {g : z_G} {K : z_K} (n : Nat) (xs : Nat → Int32) (nx : Nat) {S' : z_Stt} (cx : z_C g M_L_law 1000 K) {b : Nat} (lx : z_LK K b nx xs) (k18 : Int32 → z_Stt → Option (Bool × z_Stt)) (hk18 : ∀ (x3 : Int32) (S : z_Stt), k18 x3 S = some (true, S') → z_At g M_L_law K 18 [some (.ref b), some (.ref (z_ad g 0)), some (.ref (z_ad g 48)), some (.int x3)] [] (hp g S)) (x3 : Int32) (S : z_Stt) (h : f_L_law_1572 n xs nx k18 x3 S = some (true, S')) : z_At g M_L_law K 1572 [some (.ref b), some (.ref (z_ad g 0)), some (.ref (z_ad g 48)), some (.int x3)] [] (hp g S) := by
  unfold f_L_law_1572 at h
  refine z_aload_n cx rfl rfl dL_law_1572 ?_
  refine z_aload_n cx rfl rfl dL_law_1573 ?_
  refine z_iload_n cx rfl rfl dL_law_1574 ?_
  refine z_iconst (v := 1) cx (by decide +kernel) dL_law_1575 ?_
  refine z_iadd cx dL_law_1576 ?_
  obtain ⟨c1, h⟩ := g_if h
  refine z_sld cx lx c1 dL_law_1577 ?_
  refine z_aload_n cx rfl rfl dL_law_1578 ?_
  refine z_iload_n cx rfl rfl dL_law_1579 ?_
  refine z_iconst (v := 2) cx (by decide +kernel) dL_law_1580 ?_
  refine z_iadd cx dL_law_1581 ?_
  obtain ⟨c2, h⟩ := g_if h
  refine z_sld cx lx c2 dL_law_1582 ?_
  obtain ⟨v3, S4, e5, h⟩ := g_bd_ex h
  refine q_cvi (As := [.int (xs (x3 + 1).toNatClampNeg), .int (xs (x3 + 2).toNatClampNeg)]) cx mo_X10_taken mv_X10_taken z_cl10 rfl tb_1212 (by decide) rfl (by decide) rfl rfl (Nat.le_of_ble_eq_true rfl) dL_law_1583 (c_X10_taken (xs (x3 + 1).toNatClampNeg) (xs (x3 + 2).toNatClampNeg) _ e5) ?_
  refine z_aload_n cx rfl rfl dL_law_1586 ?_
  refine z_aload_n cx rfl rfl dL_law_1587 ?_
  refine z_iload_n cx rfl rfl dL_law_1588 ?_
  refine z_iconst (v := 1) cx (by decide +kernel) dL_law_1589 ?_
  refine z_iadd cx dL_law_1590 ?_
  obtain ⟨c6, h⟩ := g_if h
  refine z_sld cx lx c6 dL_law_1591 ?_
  refine z_aload_n cx rfl rfl dL_law_1592 ?_
  refine z_iload_n cx rfl rfl dL_law_1593 ?_
  refine z_iconst (v := 2) cx (by decide +kernel) dL_law_1594 ?_
  refine z_iadd cx dL_law_1595 ?_
  obtain ⟨c7, h⟩ := g_if h
  refine z_sld cx lx c7 dL_law_1596 ?_
  obtain ⟨v8, S9, e10, h⟩ := g_bd_ex h
  refine q_cvi (As := [.int (xs (x3 + 1).toNatClampNeg), .int (xs (x3 + 2).toNatClampNeg)]) cx mo_X11_taken mv_X11_taken z_cl11 rfl tb_1221 (by decide) rfl (by decide) rfl rfl (Nat.le_of_ble_eq_true rfl) dL_law_1597 (c_X11_taken (xs (x3 + 1).toNatClampNeg) (xs (x3 + 2).toNatClampNeg) _ e10) ?_
  refine z_icmp_eq (tgt := 1628) cx (by decide) dL_law_1600 (fun c11 => ?_) (fun c11 => ?_)
  · have h := g_t c11 h
    exact q_weak (z_wk_s (z_wk_s (z_wk_s (z_wk_s (z_wk_0))))) (t_L_law_1628 n xs nx cx lx k18 hk18 x3 S9 h)
  · have h := g_f c11 h
    refine z_iconst (v := 0) cx (by decide +kernel) dL_law_1603 ?_
    exact absurd (g_some h).1 (by decide)
def f_L_law_1605 (n : Nat) (xs : Nat → Int32) (nx : Nat) (k18 : Int32 → z_Stt → Option (Bool × z_Stt)) (x3 : Int32) (S : z_Stt) : Option (Bool × z_Stt) :=
  if ¬ (x3 + 1 < 0 ∨ nx ≤ (x3 + 1).toNatClampNeg) then
    g_bd (f_X10_count n (xs (x3 + 1).toNatClampNeg) S) fun v2 S3 =>
    if ¬ (x3 + 1 < 0 ∨ nx ≤ (x3 + 1).toNatClampNeg) then
      g_bd (f_X11_count n (xs (x3 + 1).toNatClampNeg) S3) fun v6 S7 =>
      if v2 = v6 then
        f_L_law_1628 n xs nx k18 x3 S7
      else
        some (false, S7)
    else none
  else none
set_option maxHeartbeats 4000000 in
set_option maxRecDepth 100000 in
theorem t_L_law_1605 {g : z_G} {K : z_K} (n : Nat) (xs : Nat → Int32) (nx : Nat) {S' : z_Stt} (cx : z_C g M_L_law 1000 K) {b : Nat} (lx : z_LK K b nx xs) (k18 : Int32 → z_Stt → Option (Bool × z_Stt)) (hk18 : ∀ (x3 : Int32) (S : z_Stt), k18 x3 S = some (true, S') → z_At g M_L_law K 18 [some (.ref b), some (.ref (z_ad g 0)), some (.ref (z_ad g 48)), some (.int x3)] [] (hp g S)) (x3 : Int32) (S : z_Stt) (h : f_L_law_1605 n xs nx k18 x3 S = some (true, S')) : z_At g M_L_law K 1605 [some (.ref b), some (.ref (z_ad g 0)), some (.ref (z_ad g 48)), some (.int x3)] [] (hp g S) := by
  unfold f_L_law_1605 at h
  refine z_aload_n cx rfl rfl dL_law_1605 ?_
  refine z_aload_n cx rfl rfl dL_law_1606 ?_
  refine z_iload_n cx rfl rfl dL_law_1607 ?_
  refine z_iconst (v := 1) cx (by decide +kernel) dL_law_1608 ?_
  refine z_iadd cx dL_law_1609 ?_
  obtain ⟨c1, h⟩ := g_if h
  refine z_sld cx lx c1 dL_law_1610 ?_
  obtain ⟨v2, S3, e4, h⟩ := g_bd_ex h
  refine q_cvi (As := [.int (xs (x3 + 1).toNatClampNeg)]) cx mo_X10_count mv_X10_count z_cl10 rfl tb_1232 (by decide) rfl (by decide) rfl rfl (Nat.le_of_ble_eq_true rfl) dL_law_1611 (c_X10_count (xs (x3 + 1).toNatClampNeg) _ e4) ?_
  refine z_aload_n cx rfl rfl dL_law_1614 ?_
  refine z_aload_n cx rfl rfl dL_law_1615 ?_
  refine z_iload_n cx rfl rfl dL_law_1616 ?_
  refine z_iconst (v := 1) cx (by decide +kernel) dL_law_1617 ?_
  refine z_iadd cx dL_law_1618 ?_
  obtain ⟨c5, h⟩ := g_if h
  refine z_sld cx lx c5 dL_law_1619 ?_
  obtain ⟨v6, S7, e8, h⟩ := g_bd_ex h
  refine q_cvi (As := [.int (xs (x3 + 1).toNatClampNeg)]) cx mo_X11_count mv_X11_count z_cl11 rfl tb_1240 (by decide) rfl (by decide) rfl rfl (Nat.le_of_ble_eq_true rfl) dL_law_1620 (c_X11_count (xs (x3 + 1).toNatClampNeg) _ e8) ?_
  refine z_icmp_eq (tgt := 1628) cx (by decide) dL_law_1623 (fun c9 => ?_) (fun c9 => ?_)
  · have h := g_t c9 h
    exact q_weak (z_wk_s (z_wk_s (z_wk_s (z_wk_s (z_wk_0))))) (t_L_law_1628 n xs nx cx lx k18 hk18 x3 S7 h)
  · have h := g_f c9 h
    refine z_iconst (v := 0) cx (by decide +kernel) dL_law_1626 ?_
    exact absurd (g_some h).1 (by decide)
def f_L_law_18 (n : Nat) (xs : Nat → Int32) (nx : Nat) : Nat → Int32 → z_Stt → Option (Bool × z_Stt)
  | 0, _, _ => none
  | m + 1, x3, S =>
    if (Int32.ofNat nx) - 6 < x3 then
      some (true, S)
    else
      if ¬ (x3 < 0 ∨ nx ≤ x3.toNatClampNeg) then
        if (xs x3.toNatClampNeg) &&& 63 = 0 then
          f_L_law_220 n xs nx (f_L_law_18 n xs nx m) x3 S
        else if (xs x3.toNatClampNeg) &&& 63 = 1 then
          f_L_law_253 n xs nx (f_L_law_18 n xs nx m) x3 S
        else if (xs x3.toNatClampNeg) &&& 63 = 2 then
          f_L_law_296 n xs nx (f_L_law_18 n xs nx m) x3 S
        else if (xs x3.toNatClampNeg) &&& 63 = 3 then
          f_L_law_339 n xs nx (f_L_law_18 n xs nx m) x3 S
        else if (xs x3.toNatClampNeg) &&& 63 = 4 then
          f_L_law_372 n xs nx (f_L_law_18 n xs nx m) x3 S
        else if (xs x3.toNatClampNeg) &&& 63 = 5 then
          f_L_law_395 n xs nx (f_L_law_18 n xs nx m) x3 S
        else if (xs x3.toNatClampNeg) &&& 63 = 6 then
          f_L_law_408 n xs nx (f_L_law_18 n xs nx m) x3 S
        else if (xs x3.toNatClampNeg) &&& 63 = 7 then
          f_L_law_452 n xs nx (f_L_law_18 n xs nx m) x3 S
        else if (xs x3.toNatClampNeg) &&& 63 = 8 then
          f_L_law_485 n xs nx (f_L_law_18 n xs nx m) x3 S
        else if (xs x3.toNatClampNeg) &&& 63 = 9 then
          f_L_law_529 n xs nx (f_L_law_18 n xs nx m) x3 S
        else if (xs x3.toNatClampNeg) &&& 63 = 10 then
          f_L_law_552 n xs nx (f_L_law_18 n xs nx m) x3 S
        else if (xs x3.toNatClampNeg) &&& 63 = 11 then
          f_L_law_596 n xs nx (f_L_law_18 n xs nx m) x3 S
        else if (xs x3.toNatClampNeg) &&& 63 = 12 then
          f_L_law_629 n xs nx (f_L_law_18 n xs nx m) x3 S
        else if (xs x3.toNatClampNeg) &&& 63 = 13 then
          f_L_law_673 n xs nx (f_L_law_18 n xs nx m) x3 S
        else if (xs x3.toNatClampNeg) &&& 63 = 14 then
          f_L_law_686 n xs nx (f_L_law_18 n xs nx m) x3 S
        else if (xs x3.toNatClampNeg) &&& 63 = 15 then
          f_L_law_730 n xs nx (f_L_law_18 n xs nx m) x3 S
        else if (xs x3.toNatClampNeg) &&& 63 = 16 then
          f_L_law_773 n xs nx (f_L_law_18 n xs nx m) x3 S
        else if (xs x3.toNatClampNeg) &&& 63 = 17 then
          f_L_law_806 n xs nx (f_L_law_18 n xs nx m) x3 S
        else if (xs x3.toNatClampNeg) &&& 63 = 18 then
          f_L_law_840 n xs nx (f_L_law_18 n xs nx m) x3 S
        else if (xs x3.toNatClampNeg) &&& 63 = 19 then
          f_L_law_884 n xs nx (f_L_law_18 n xs nx m) x3 S
        else if (xs x3.toNatClampNeg) &&& 63 = 20 then
          f_L_law_928 n xs nx (f_L_law_18 n xs nx m) x3 S
        else if (xs x3.toNatClampNeg) &&& 63 = 21 then
          f_L_law_981 n xs nx (f_L_law_18 n xs nx m) x3 S
        else if (xs x3.toNatClampNeg) &&& 63 = 22 then
          f_L_law_1014 n xs nx (f_L_law_18 n xs nx m) x3 S
        else if (xs x3.toNatClampNeg) &&& 63 = 23 then
          f_L_law_1057 n xs nx (f_L_law_18 n xs nx m) x3 S
        else if (xs x3.toNatClampNeg) &&& 63 = 24 then
          f_L_law_1080 n xs nx (f_L_law_18 n xs nx m) x3 S
        else if (xs x3.toNatClampNeg) &&& 63 = 25 then
          f_L_law_1113 n xs nx (f_L_law_18 n xs nx m) x3 S
        else if (xs x3.toNatClampNeg) &&& 63 = 26 then
          f_L_law_1136 n xs nx (f_L_law_18 n xs nx m) x3 S
        else if (xs x3.toNatClampNeg) &&& 63 = 27 then
          f_L_law_1149 n xs nx (f_L_law_18 n xs nx m) x3 S
        else if (xs x3.toNatClampNeg) &&& 63 = 28 then
          f_L_law_1162 n xs nx (f_L_law_18 n xs nx m) x3 S
        else if (xs x3.toNatClampNeg) &&& 63 = 29 then
          f_L_law_1185 n xs nx (f_L_law_18 n xs nx m) x3 S
        else if (xs x3.toNatClampNeg) &&& 63 = 30 then
          f_L_law_1198 n xs nx (f_L_law_18 n xs nx m) x3 S
        else if (xs x3.toNatClampNeg) &&& 63 = 31 then
          f_L_law_1211 n xs nx (f_L_law_18 n xs nx m) x3 S
        else if (xs x3.toNatClampNeg) &&& 63 = 32 then
          f_L_law_1224 n xs nx (f_L_law_18 n xs nx m) x3 S
        else if (xs x3.toNatClampNeg) &&& 63 = 33 then
          f_L_law_1237 n xs nx (f_L_law_18 n xs nx m) x3 S
        else if (xs x3.toNatClampNeg) &&& 63 = 34 then
          f_L_law_1260 n xs nx (f_L_law_18 n xs nx m) x3 S
        else if (xs x3.toNatClampNeg) &&& 63 = 35 then
          f_L_law_1303 n xs nx (f_L_law_18 n xs nx m) x3 S
        else if (xs x3.toNatClampNeg) &&& 63 = 36 then
          f_L_law_1326 n xs nx (f_L_law_18 n xs nx m) x3 S
        else if (xs x3.toNatClampNeg) &&& 63 = 37 then
          f_L_law_1359 n xs nx (f_L_law_18 n xs nx m) x3 S
        else if (xs x3.toNatClampNeg) &&& 63 = 38 then
          f_L_law_1402 n xs nx (f_L_law_18 n xs nx m) x3 S
        else if (xs x3.toNatClampNeg) &&& 63 = 39 then
          f_L_law_1475 n xs nx (f_L_law_18 n xs nx m) x3 S
        else if (xs x3.toNatClampNeg) &&& 63 = 40 then
          f_L_law_1509 n xs nx (f_L_law_18 n xs nx m) x3 S
        else if (xs x3.toNatClampNeg) &&& 63 = 41 then
          f_L_law_1572 n xs nx (f_L_law_18 n xs nx m) x3 S
        else if (xs x3.toNatClampNeg) &&& 63 = 42 then
          f_L_law_1605 n xs nx (f_L_law_18 n xs nx m) x3 S
        else 
          f_L_law_1628 n xs nx (f_L_law_18 n xs nx m) x3 S
      else none
set_option maxHeartbeats 4000000 in
set_option maxRecDepth 100000 in
theorem t_L_law_18 {g : z_G} {K : z_K} (n : Nat) (xs : Nat → Int32) (nx : Nat) {S' : z_Stt} (cx : z_C g M_L_law 1000 K) {b : Nat} (lx : z_LK K b nx xs) : ∀ (m : Nat) (x3 : Int32) (S : z_Stt) (h : f_L_law_18 n xs nx m x3 S = some (true, S')), z_At g M_L_law K 18 [some (.ref b), some (.ref (z_ad g 0)), some (.ref (z_ad g 48)), some (.int x3)] [] (hp g S) := by
  intro m
  induction m with
  | zero => intro x3 S h; simp [f_L_law_18] at h
  | succ m ih =>
    intro x3 S h
    rw [f_L_law_18] at h
    refine z_iload_n cx rfl rfl dL_law_18 ?_
    refine z_aload_n cx rfl rfl dL_law_19 ?_
    refine z_slen cx lx dL_law_20 ?_
    refine z_bipush (v := 6) cx (by decide +kernel) dL_law_21 ?_
    refine z_isub cx dL_law_23 ?_
    refine z_icmp_gt (tgt := 1634) cx (by decide) dL_law_24 (fun c1 => ?_) (fun c1 => ?_)
    · have h := g_t c1 h
      refine z_iconst (v := 1) cx (by decide +kernel) dL_law_1634 ?_
      exact z_lawend cx lx dL_law_1635
    · have h := g_f c1 h
      refine z_aload_n cx rfl rfl dL_law_27 ?_
      refine z_iload_n cx rfl rfl dL_law_28 ?_
      obtain ⟨c2, h⟩ := g_if h
      refine z_sld cx lx c2 dL_law_29 ?_
      refine z_bipush (v := 63) cx (by decide +kernel) dL_law_30 ?_
      refine z_iand cx dL_law_32 ?_
      by_cases c3 : (xs x3.toNatClampNeg) &&& 63 = 0
      · have h := g_t c3 h
        refine z_tableIn (tgt := 220) (off := 187) cx (by rw [c3]; decide +kernel) (by rw [c3]; decide +kernel) (by rw [c3]; decide +kernel) (by decide) dL_law_33 ?_
        exact q_weak (z_wk_s (z_wk_s (z_wk_s (z_wk_s (z_wk_0))))) (t_L_law_220 n xs nx cx lx (f_L_law_18 n xs nx m) ih x3 S h)
      have h := g_f c3 h
      by_cases c4 : (xs x3.toNatClampNeg) &&& 63 = 1
      · have h := g_t c4 h
        refine z_tableIn (tgt := 253) (off := 220) cx (by rw [c4]; decide +kernel) (by rw [c4]; decide +kernel) (by rw [c4]; decide +kernel) (by decide) dL_law_33 ?_
        exact q_weak (z_wk_s (z_wk_s (z_wk_s (z_wk_s (z_wk_0))))) (t_L_law_253 n xs nx cx lx (f_L_law_18 n xs nx m) ih x3 S h)
      have h := g_f c4 h
      by_cases c5 : (xs x3.toNatClampNeg) &&& 63 = 2
      · have h := g_t c5 h
        refine z_tableIn (tgt := 296) (off := 263) cx (by rw [c5]; decide +kernel) (by rw [c5]; decide +kernel) (by rw [c5]; decide +kernel) (by decide) dL_law_33 ?_
        exact q_weak (z_wk_s (z_wk_s (z_wk_s (z_wk_s (z_wk_0))))) (t_L_law_296 n xs nx cx lx (f_L_law_18 n xs nx m) ih x3 S h)
      have h := g_f c5 h
      by_cases c6 : (xs x3.toNatClampNeg) &&& 63 = 3
      · have h := g_t c6 h
        refine z_tableIn (tgt := 339) (off := 306) cx (by rw [c6]; decide +kernel) (by rw [c6]; decide +kernel) (by rw [c6]; decide +kernel) (by decide) dL_law_33 ?_
        exact q_weak (z_wk_s (z_wk_s (z_wk_s (z_wk_s (z_wk_0))))) (t_L_law_339 n xs nx cx lx (f_L_law_18 n xs nx m) ih x3 S h)
      have h := g_f c6 h
      by_cases c7 : (xs x3.toNatClampNeg) &&& 63 = 4
      · have h := g_t c7 h
        refine z_tableIn (tgt := 372) (off := 339) cx (by rw [c7]; decide +kernel) (by rw [c7]; decide +kernel) (by rw [c7]; decide +kernel) (by decide) dL_law_33 ?_
        exact q_weak (z_wk_s (z_wk_s (z_wk_s (z_wk_s (z_wk_0))))) (t_L_law_372 n xs nx cx lx (f_L_law_18 n xs nx m) ih x3 S h)
      have h := g_f c7 h
      by_cases c8 : (xs x3.toNatClampNeg) &&& 63 = 5
      · have h := g_t c8 h
        refine z_tableIn (tgt := 395) (off := 362) cx (by rw [c8]; decide +kernel) (by rw [c8]; decide +kernel) (by rw [c8]; decide +kernel) (by decide) dL_law_33 ?_
        exact q_weak (z_wk_s (z_wk_s (z_wk_s (z_wk_s (z_wk_0))))) (t_L_law_395 n xs nx cx lx (f_L_law_18 n xs nx m) ih x3 S h)
      have h := g_f c8 h
      by_cases c9 : (xs x3.toNatClampNeg) &&& 63 = 6
      · have h := g_t c9 h
        refine z_tableIn (tgt := 408) (off := 375) cx (by rw [c9]; decide +kernel) (by rw [c9]; decide +kernel) (by rw [c9]; decide +kernel) (by decide) dL_law_33 ?_
        exact q_weak (z_wk_s (z_wk_s (z_wk_s (z_wk_s (z_wk_0))))) (t_L_law_408 n xs nx cx lx (f_L_law_18 n xs nx m) ih x3 S h)
      have h := g_f c9 h
      by_cases c10 : (xs x3.toNatClampNeg) &&& 63 = 7
      · have h := g_t c10 h
        refine z_tableIn (tgt := 452) (off := 419) cx (by rw [c10]; decide +kernel) (by rw [c10]; decide +kernel) (by rw [c10]; decide +kernel) (by decide) dL_law_33 ?_
        exact q_weak (z_wk_s (z_wk_s (z_wk_s (z_wk_s (z_wk_0))))) (t_L_law_452 n xs nx cx lx (f_L_law_18 n xs nx m) ih x3 S h)
      have h := g_f c10 h
      by_cases c11 : (xs x3.toNatClampNeg) &&& 63 = 8
      · have h := g_t c11 h
        refine z_tableIn (tgt := 485) (off := 452) cx (by rw [c11]; decide +kernel) (by rw [c11]; decide +kernel) (by rw [c11]; decide +kernel) (by decide) dL_law_33 ?_
        exact q_weak (z_wk_s (z_wk_s (z_wk_s (z_wk_s (z_wk_0))))) (t_L_law_485 n xs nx cx lx (f_L_law_18 n xs nx m) ih x3 S h)
      have h := g_f c11 h
      by_cases c12 : (xs x3.toNatClampNeg) &&& 63 = 9
      · have h := g_t c12 h
        refine z_tableIn (tgt := 529) (off := 496) cx (by rw [c12]; decide +kernel) (by rw [c12]; decide +kernel) (by rw [c12]; decide +kernel) (by decide) dL_law_33 ?_
        exact q_weak (z_wk_s (z_wk_s (z_wk_s (z_wk_s (z_wk_0))))) (t_L_law_529 n xs nx cx lx (f_L_law_18 n xs nx m) ih x3 S h)
      have h := g_f c12 h
      by_cases c13 : (xs x3.toNatClampNeg) &&& 63 = 10
      · have h := g_t c13 h
        refine z_tableIn (tgt := 552) (off := 519) cx (by rw [c13]; decide +kernel) (by rw [c13]; decide +kernel) (by rw [c13]; decide +kernel) (by decide) dL_law_33 ?_
        exact q_weak (z_wk_s (z_wk_s (z_wk_s (z_wk_s (z_wk_0))))) (t_L_law_552 n xs nx cx lx (f_L_law_18 n xs nx m) ih x3 S h)
      have h := g_f c13 h
      by_cases c14 : (xs x3.toNatClampNeg) &&& 63 = 11
      · have h := g_t c14 h
        refine z_tableIn (tgt := 596) (off := 563) cx (by rw [c14]; decide +kernel) (by rw [c14]; decide +kernel) (by rw [c14]; decide +kernel) (by decide) dL_law_33 ?_
        exact q_weak (z_wk_s (z_wk_s (z_wk_s (z_wk_s (z_wk_0))))) (t_L_law_596 n xs nx cx lx (f_L_law_18 n xs nx m) ih x3 S h)
      have h := g_f c14 h
      by_cases c15 : (xs x3.toNatClampNeg) &&& 63 = 12
      · have h := g_t c15 h
        refine z_tableIn (tgt := 629) (off := 596) cx (by rw [c15]; decide +kernel) (by rw [c15]; decide +kernel) (by rw [c15]; decide +kernel) (by decide) dL_law_33 ?_
        exact q_weak (z_wk_s (z_wk_s (z_wk_s (z_wk_s (z_wk_0))))) (t_L_law_629 n xs nx cx lx (f_L_law_18 n xs nx m) ih x3 S h)
      have h := g_f c15 h
      by_cases c16 : (xs x3.toNatClampNeg) &&& 63 = 13
      · have h := g_t c16 h
        refine z_tableIn (tgt := 673) (off := 640) cx (by rw [c16]; decide +kernel) (by rw [c16]; decide +kernel) (by rw [c16]; decide +kernel) (by decide) dL_law_33 ?_
        exact q_weak (z_wk_s (z_wk_s (z_wk_s (z_wk_s (z_wk_0))))) (t_L_law_673 n xs nx cx lx (f_L_law_18 n xs nx m) ih x3 S h)
      have h := g_f c16 h
      by_cases c17 : (xs x3.toNatClampNeg) &&& 63 = 14
      · have h := g_t c17 h
        refine z_tableIn (tgt := 686) (off := 653) cx (by rw [c17]; decide +kernel) (by rw [c17]; decide +kernel) (by rw [c17]; decide +kernel) (by decide) dL_law_33 ?_
        exact q_weak (z_wk_s (z_wk_s (z_wk_s (z_wk_s (z_wk_0))))) (t_L_law_686 n xs nx cx lx (f_L_law_18 n xs nx m) ih x3 S h)
      have h := g_f c17 h
      by_cases c18 : (xs x3.toNatClampNeg) &&& 63 = 15
      · have h := g_t c18 h
        refine z_tableIn (tgt := 730) (off := 697) cx (by rw [c18]; decide +kernel) (by rw [c18]; decide +kernel) (by rw [c18]; decide +kernel) (by decide) dL_law_33 ?_
        exact q_weak (z_wk_s (z_wk_s (z_wk_s (z_wk_s (z_wk_0))))) (t_L_law_730 n xs nx cx lx (f_L_law_18 n xs nx m) ih x3 S h)
      have h := g_f c18 h
      by_cases c19 : (xs x3.toNatClampNeg) &&& 63 = 16
      · have h := g_t c19 h
        refine z_tableIn (tgt := 773) (off := 740) cx (by rw [c19]; decide +kernel) (by rw [c19]; decide +kernel) (by rw [c19]; decide +kernel) (by decide) dL_law_33 ?_
        exact q_weak (z_wk_s (z_wk_s (z_wk_s (z_wk_s (z_wk_0))))) (t_L_law_773 n xs nx cx lx (f_L_law_18 n xs nx m) ih x3 S h)
      have h := g_f c19 h
      by_cases c20 : (xs x3.toNatClampNeg) &&& 63 = 17
      · have h := g_t c20 h
        refine z_tableIn (tgt := 806) (off := 773) cx (by rw [c20]; decide +kernel) (by rw [c20]; decide +kernel) (by rw [c20]; decide +kernel) (by decide) dL_law_33 ?_
        exact q_weak (z_wk_s (z_wk_s (z_wk_s (z_wk_s (z_wk_0))))) (t_L_law_806 n xs nx cx lx (f_L_law_18 n xs nx m) ih x3 S h)
      have h := g_f c20 h
      by_cases c21 : (xs x3.toNatClampNeg) &&& 63 = 18
      · have h := g_t c21 h
        refine z_tableIn (tgt := 840) (off := 807) cx (by rw [c21]; decide +kernel) (by rw [c21]; decide +kernel) (by rw [c21]; decide +kernel) (by decide) dL_law_33 ?_
        exact q_weak (z_wk_s (z_wk_s (z_wk_s (z_wk_s (z_wk_0))))) (t_L_law_840 n xs nx cx lx (f_L_law_18 n xs nx m) ih x3 S h)
      have h := g_f c21 h
      by_cases c22 : (xs x3.toNatClampNeg) &&& 63 = 19
      · have h := g_t c22 h
        refine z_tableIn (tgt := 884) (off := 851) cx (by rw [c22]; decide +kernel) (by rw [c22]; decide +kernel) (by rw [c22]; decide +kernel) (by decide) dL_law_33 ?_
        exact q_weak (z_wk_s (z_wk_s (z_wk_s (z_wk_s (z_wk_0))))) (t_L_law_884 n xs nx cx lx (f_L_law_18 n xs nx m) ih x3 S h)
      have h := g_f c22 h
      by_cases c23 : (xs x3.toNatClampNeg) &&& 63 = 20
      · have h := g_t c23 h
        refine z_tableIn (tgt := 928) (off := 895) cx (by rw [c23]; decide +kernel) (by rw [c23]; decide +kernel) (by rw [c23]; decide +kernel) (by decide) dL_law_33 ?_
        exact q_weak (z_wk_s (z_wk_s (z_wk_s (z_wk_s (z_wk_0))))) (t_L_law_928 n xs nx cx lx (f_L_law_18 n xs nx m) ih x3 S h)
      have h := g_f c23 h
      by_cases c24 : (xs x3.toNatClampNeg) &&& 63 = 21
      · have h := g_t c24 h
        refine z_tableIn (tgt := 981) (off := 948) cx (by rw [c24]; decide +kernel) (by rw [c24]; decide +kernel) (by rw [c24]; decide +kernel) (by decide) dL_law_33 ?_
        exact q_weak (z_wk_s (z_wk_s (z_wk_s (z_wk_s (z_wk_0))))) (t_L_law_981 n xs nx cx lx (f_L_law_18 n xs nx m) ih x3 S h)
      have h := g_f c24 h
      by_cases c25 : (xs x3.toNatClampNeg) &&& 63 = 22
      · have h := g_t c25 h
        refine z_tableIn (tgt := 1014) (off := 981) cx (by rw [c25]; decide +kernel) (by rw [c25]; decide +kernel) (by rw [c25]; decide +kernel) (by decide) dL_law_33 ?_
        exact q_weak (z_wk_s (z_wk_s (z_wk_s (z_wk_s (z_wk_0))))) (t_L_law_1014 n xs nx cx lx (f_L_law_18 n xs nx m) ih x3 S h)
      have h := g_f c25 h
      by_cases c26 : (xs x3.toNatClampNeg) &&& 63 = 23
      · have h := g_t c26 h
        refine z_tableIn (tgt := 1057) (off := 1024) cx (by rw [c26]; decide +kernel) (by rw [c26]; decide +kernel) (by rw [c26]; decide +kernel) (by decide) dL_law_33 ?_
        exact q_weak (z_wk_s (z_wk_s (z_wk_s (z_wk_s (z_wk_0))))) (t_L_law_1057 n xs nx cx lx (f_L_law_18 n xs nx m) ih x3 S h)
      have h := g_f c26 h
      by_cases c27 : (xs x3.toNatClampNeg) &&& 63 = 24
      · have h := g_t c27 h
        refine z_tableIn (tgt := 1080) (off := 1047) cx (by rw [c27]; decide +kernel) (by rw [c27]; decide +kernel) (by rw [c27]; decide +kernel) (by decide) dL_law_33 ?_
        exact q_weak (z_wk_s (z_wk_s (z_wk_s (z_wk_s (z_wk_0))))) (t_L_law_1080 n xs nx cx lx (f_L_law_18 n xs nx m) ih x3 S h)
      have h := g_f c27 h
      by_cases c28 : (xs x3.toNatClampNeg) &&& 63 = 25
      · have h := g_t c28 h
        refine z_tableIn (tgt := 1113) (off := 1080) cx (by rw [c28]; decide +kernel) (by rw [c28]; decide +kernel) (by rw [c28]; decide +kernel) (by decide) dL_law_33 ?_
        exact q_weak (z_wk_s (z_wk_s (z_wk_s (z_wk_s (z_wk_0))))) (t_L_law_1113 n xs nx cx lx (f_L_law_18 n xs nx m) ih x3 S h)
      have h := g_f c28 h
      by_cases c29 : (xs x3.toNatClampNeg) &&& 63 = 26
      · have h := g_t c29 h
        refine z_tableIn (tgt := 1136) (off := 1103) cx (by rw [c29]; decide +kernel) (by rw [c29]; decide +kernel) (by rw [c29]; decide +kernel) (by decide) dL_law_33 ?_
        exact q_weak (z_wk_s (z_wk_s (z_wk_s (z_wk_s (z_wk_0))))) (t_L_law_1136 n xs nx cx lx (f_L_law_18 n xs nx m) ih x3 S h)
      have h := g_f c29 h
      by_cases c30 : (xs x3.toNatClampNeg) &&& 63 = 27
      · have h := g_t c30 h
        refine z_tableIn (tgt := 1149) (off := 1116) cx (by rw [c30]; decide +kernel) (by rw [c30]; decide +kernel) (by rw [c30]; decide +kernel) (by decide) dL_law_33 ?_
        exact q_weak (z_wk_s (z_wk_s (z_wk_s (z_wk_s (z_wk_0))))) (t_L_law_1149 n xs nx cx lx (f_L_law_18 n xs nx m) ih x3 S h)
      have h := g_f c30 h
      by_cases c31 : (xs x3.toNatClampNeg) &&& 63 = 28
      · have h := g_t c31 h
        refine z_tableIn (tgt := 1162) (off := 1129) cx (by rw [c31]; decide +kernel) (by rw [c31]; decide +kernel) (by rw [c31]; decide +kernel) (by decide) dL_law_33 ?_
        exact q_weak (z_wk_s (z_wk_s (z_wk_s (z_wk_s (z_wk_0))))) (t_L_law_1162 n xs nx cx lx (f_L_law_18 n xs nx m) ih x3 S h)
      have h := g_f c31 h
      by_cases c32 : (xs x3.toNatClampNeg) &&& 63 = 29
      · have h := g_t c32 h
        refine z_tableIn (tgt := 1185) (off := 1152) cx (by rw [c32]; decide +kernel) (by rw [c32]; decide +kernel) (by rw [c32]; decide +kernel) (by decide) dL_law_33 ?_
        exact q_weak (z_wk_s (z_wk_s (z_wk_s (z_wk_s (z_wk_0))))) (t_L_law_1185 n xs nx cx lx (f_L_law_18 n xs nx m) ih x3 S h)
      have h := g_f c32 h
      by_cases c33 : (xs x3.toNatClampNeg) &&& 63 = 30
      · have h := g_t c33 h
        refine z_tableIn (tgt := 1198) (off := 1165) cx (by rw [c33]; decide +kernel) (by rw [c33]; decide +kernel) (by rw [c33]; decide +kernel) (by decide) dL_law_33 ?_
        exact q_weak (z_wk_s (z_wk_s (z_wk_s (z_wk_s (z_wk_0))))) (t_L_law_1198 n xs nx cx lx (f_L_law_18 n xs nx m) ih x3 S h)
      have h := g_f c33 h
      by_cases c34 : (xs x3.toNatClampNeg) &&& 63 = 31
      · have h := g_t c34 h
        refine z_tableIn (tgt := 1211) (off := 1178) cx (by rw [c34]; decide +kernel) (by rw [c34]; decide +kernel) (by rw [c34]; decide +kernel) (by decide) dL_law_33 ?_
        exact q_weak (z_wk_s (z_wk_s (z_wk_s (z_wk_s (z_wk_0))))) (t_L_law_1211 n xs nx cx lx (f_L_law_18 n xs nx m) ih x3 S h)
      have h := g_f c34 h
      by_cases c35 : (xs x3.toNatClampNeg) &&& 63 = 32
      · have h := g_t c35 h
        refine z_tableIn (tgt := 1224) (off := 1191) cx (by rw [c35]; decide +kernel) (by rw [c35]; decide +kernel) (by rw [c35]; decide +kernel) (by decide) dL_law_33 ?_
        exact q_weak (z_wk_s (z_wk_s (z_wk_s (z_wk_s (z_wk_0))))) (t_L_law_1224 n xs nx cx lx (f_L_law_18 n xs nx m) ih x3 S h)
      have h := g_f c35 h
      by_cases c36 : (xs x3.toNatClampNeg) &&& 63 = 33
      · have h := g_t c36 h
        refine z_tableIn (tgt := 1237) (off := 1204) cx (by rw [c36]; decide +kernel) (by rw [c36]; decide +kernel) (by rw [c36]; decide +kernel) (by decide) dL_law_33 ?_
        exact q_weak (z_wk_s (z_wk_s (z_wk_s (z_wk_s (z_wk_0))))) (t_L_law_1237 n xs nx cx lx (f_L_law_18 n xs nx m) ih x3 S h)
      have h := g_f c36 h
      by_cases c37 : (xs x3.toNatClampNeg) &&& 63 = 34
      · have h := g_t c37 h
        refine z_tableIn (tgt := 1260) (off := 1227) cx (by rw [c37]; decide +kernel) (by rw [c37]; decide +kernel) (by rw [c37]; decide +kernel) (by decide) dL_law_33 ?_
        exact q_weak (z_wk_s (z_wk_s (z_wk_s (z_wk_s (z_wk_0))))) (t_L_law_1260 n xs nx cx lx (f_L_law_18 n xs nx m) ih x3 S h)
      have h := g_f c37 h
      by_cases c38 : (xs x3.toNatClampNeg) &&& 63 = 35
      · have h := g_t c38 h
        refine z_tableIn (tgt := 1303) (off := 1270) cx (by rw [c38]; decide +kernel) (by rw [c38]; decide +kernel) (by rw [c38]; decide +kernel) (by decide) dL_law_33 ?_
        exact q_weak (z_wk_s (z_wk_s (z_wk_s (z_wk_s (z_wk_0))))) (t_L_law_1303 n xs nx cx lx (f_L_law_18 n xs nx m) ih x3 S h)
      have h := g_f c38 h
      by_cases c39 : (xs x3.toNatClampNeg) &&& 63 = 36
      · have h := g_t c39 h
        refine z_tableIn (tgt := 1326) (off := 1293) cx (by rw [c39]; decide +kernel) (by rw [c39]; decide +kernel) (by rw [c39]; decide +kernel) (by decide) dL_law_33 ?_
        exact q_weak (z_wk_s (z_wk_s (z_wk_s (z_wk_s (z_wk_0))))) (t_L_law_1326 n xs nx cx lx (f_L_law_18 n xs nx m) ih x3 S h)
      have h := g_f c39 h
      by_cases c40 : (xs x3.toNatClampNeg) &&& 63 = 37
      · have h := g_t c40 h
        refine z_tableIn (tgt := 1359) (off := 1326) cx (by rw [c40]; decide +kernel) (by rw [c40]; decide +kernel) (by rw [c40]; decide +kernel) (by decide) dL_law_33 ?_
        exact q_weak (z_wk_s (z_wk_s (z_wk_s (z_wk_s (z_wk_0))))) (t_L_law_1359 n xs nx cx lx (f_L_law_18 n xs nx m) ih x3 S h)
      have h := g_f c40 h
      by_cases c41 : (xs x3.toNatClampNeg) &&& 63 = 38
      · have h := g_t c41 h
        refine z_tableIn (tgt := 1402) (off := 1369) cx (by rw [c41]; decide +kernel) (by rw [c41]; decide +kernel) (by rw [c41]; decide +kernel) (by decide) dL_law_33 ?_
        exact q_weak (z_wk_s (z_wk_s (z_wk_s (z_wk_s (z_wk_0))))) (t_L_law_1402 n xs nx cx lx (f_L_law_18 n xs nx m) ih x3 S h)
      have h := g_f c41 h
      by_cases c42 : (xs x3.toNatClampNeg) &&& 63 = 39
      · have h := g_t c42 h
        refine z_tableIn (tgt := 1475) (off := 1442) cx (by rw [c42]; decide +kernel) (by rw [c42]; decide +kernel) (by rw [c42]; decide +kernel) (by decide) dL_law_33 ?_
        exact q_weak (z_wk_s (z_wk_s (z_wk_s (z_wk_s (z_wk_0))))) (t_L_law_1475 n xs nx cx lx (f_L_law_18 n xs nx m) ih x3 S h)
      have h := g_f c42 h
      by_cases c43 : (xs x3.toNatClampNeg) &&& 63 = 40
      · have h := g_t c43 h
        refine z_tableIn (tgt := 1509) (off := 1476) cx (by rw [c43]; decide +kernel) (by rw [c43]; decide +kernel) (by rw [c43]; decide +kernel) (by decide) dL_law_33 ?_
        exact q_weak (z_wk_s (z_wk_s (z_wk_s (z_wk_s (z_wk_0))))) (t_L_law_1509 n xs nx cx lx (f_L_law_18 n xs nx m) ih x3 S h)
      have h := g_f c43 h
      by_cases c44 : (xs x3.toNatClampNeg) &&& 63 = 41
      · have h := g_t c44 h
        refine z_tableIn (tgt := 1572) (off := 1539) cx (by rw [c44]; decide +kernel) (by rw [c44]; decide +kernel) (by rw [c44]; decide +kernel) (by decide) dL_law_33 ?_
        exact q_weak (z_wk_s (z_wk_s (z_wk_s (z_wk_s (z_wk_0))))) (t_L_law_1572 n xs nx cx lx (f_L_law_18 n xs nx m) ih x3 S h)
      have h := g_f c44 h
      by_cases c45 : (xs x3.toNatClampNeg) &&& 63 = 42
      · have h := g_t c45 h
        refine z_tableIn (tgt := 1605) (off := 1572) cx (by rw [c45]; decide +kernel) (by rw [c45]; decide +kernel) (by rw [c45]; decide +kernel) (by decide) dL_law_33 ?_
        exact q_weak (z_wk_s (z_wk_s (z_wk_s (z_wk_s (z_wk_0))))) (t_L_law_1605 n xs nx cx lx (f_L_law_18 n xs nx m) ih x3 S h)
      have h := g_f c45 h
      refine q_tableD (tgt := 1628) (lo := 0) (hi := 42) cx [0, 1, 2, 3, 4, 5, 6, 7, 8, 9, 10, 11, 12, 13, 14, 15, 16, 17, 18, 19, 20, 21, 22, 23, 24, 25, 26, 27, 28, 29, 30, 31, 32, 33, 34, 35, 36, 37, 38, 39, 40, 41, 42] (by decide +kernel) (by intro a ha; simp only [List.mem_cons, List.not_mem_nil, or_false] at ha; rcases ha with rfl | rfl | rfl | rfl | rfl | rfl | rfl | rfl | rfl | rfl | rfl | rfl | rfl | rfl | rfl | rfl | rfl | rfl | rfl | rfl | rfl | rfl | rfl | rfl | rfl | rfl | rfl | rfl | rfl | rfl | rfl | rfl | rfl | rfl | rfl | rfl | rfl | rfl | rfl | rfl | rfl | rfl | rfl <;> assumption) (by decide) dL_law_33 ?_
      exact q_weak (z_wk_s (z_wk_s (z_wk_s (z_wk_s (z_wk_0))))) (t_L_law_1628 n xs nx cx lx (f_L_law_18 n xs nx m) ih x3 S h)
def f_L_law (n : Nat) (xs : Nat → Int32) (nx : Nat) (S : z_Stt) : Option (Bool × z_Stt) :=
  f_L_law_18 n xs nx n 0 S
set_option maxHeartbeats 4000000 in
set_option maxRecDepth 100000 in
theorem t_L_law {g : z_G} {K : z_K} (n : Nat) (xs : Nat → Int32) (nx : Nat) {S' : z_Stt} (cx : z_C g M_L_law 1000 K) {b : Nat} (lx : z_LK K b nx xs) (S : z_Stt) (h : f_L_law n xs nx S = some (true, S')) : z_At g M_L_law K 16 [some (.ref b), some (.ref (z_ad g 0)), some (.ref (z_ad g 48)), none] [] (hp g S) := by
  unfold f_L_law at h
  refine z_iconst (v := 0) cx (by decide +kernel) dL_law_16 ?_
  refine z_istore_n (L' := [some (.ref b), some (.ref (z_ad g 0)), some (.ref (z_ad g 48)), some (.int 0)]) cx rfl (by decide) rfl dL_law_17 ?_
  exact q_weak (z_wk_s (z_wk_s (z_wk_s (z_wk_s (z_wk_0))))) (t_L_law_18 n xs nx cx lx n 0 S h)
