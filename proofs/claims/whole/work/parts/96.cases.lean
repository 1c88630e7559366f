theorem lg_cmp_self (x : Int64) : lg_cmp x x = 0 := by simp [lg_cmp]
set_option maxRecDepth 100000 in
theorem lc_thing {xs : Nat → Int32} {nx : Nat} {k18 : Int32 → z_Stt → Option (Bool × z_Stt)} {x3 : Int32} {S : z_Stt} (h1 : ¬ (x3 + 1 < 0 ∨ nx ≤ (x3 + 1).toNatClampNeg)) (h2 : ¬ (x3 + 2 < 0 ∨ nx ≤ (x3 + 2).toNatClampNeg)) (h3 : ¬ (x3 + 3 < 0 ∨ nx ≤ (x3 + 3).toNatClampNeg)) (h4 : ¬ (x3 + 4 < 0 ∨ nx ≤ (x3 + 4).toNatClampNeg)) (h5 : ¬ (x3 + 5 < 0 ∨ nx ≤ (x3 + 5).toNatClampNeg)) (hS : Inv S) (k : ∀ T, Inv T → ∃ S1, k18 (x3 + 6) T = some (true, S1)) : ∃ S1, f_L_law_220 FUEL xs nx k18 x3 S = some (true, S1) := by
  unfold f_L_law_220
  try simp only [if_pos h1, if_pos h2, if_pos h3, if_pos h4, if_pos h5]
  obtain ⟨v, S1, S2, e1, e2, hI⟩ := E_thing (xs (x3 + 1).toNatClampNeg) (xs (x3 + 2).toNatClampNeg) hS
  simp only [e1, g_bd, e2, if_true]
  exact k S2 hI
set_option maxRecDepth 100000 in
theorem lc_things {xs : Nat → Int32} {nx : Nat} {k18 : Int32 → z_Stt → Option (Bool × z_Stt)} {x3 : Int32} {S : z_Stt} (h1 : ¬ (x3 + 1 < 0 ∨ nx ≤ (x3 + 1).toNatClampNeg)) (h2 : ¬ (x3 + 2 < 0 ∨ nx ≤ (x3 + 2).toNatClampNeg)) (h3 : ¬ (x3 + 3 < 0 ∨ nx ≤ (x3 + 3).toNatClampNeg)) (h4 : ¬ (x3 + 4 < 0 ∨ nx ≤ (x3 + 4).toNatClampNeg)) (h5 : ¬ (x3 + 5 < 0 ∨ nx ≤ (x3 + 5).toNatClampNeg)) (hS : Inv S) (k : ∀ T, Inv T → ∃ S1, k18 (x3 + 6) T = some (true, S1)) : ∃ S1, f_L_law_253 FUEL xs nx k18 x3 S = some (true, S1) := by
  unfold f_L_law_253
  try simp only [if_pos h1, if_pos h2, if_pos h3, if_pos h4, if_pos h5]
  obtain ⟨v, S1, S2, e1, e2, hI⟩ := E_things (xs (x3 + 1).toNatClampNeg) (xs (x3 + 2).toNatClampNeg) (xs (x3 + 3).toNatClampNeg) hS
  simp only [e1, g_bd, e2, if_true]
  exact k S2 hI
set_option maxRecDepth 100000 in
theorem lc_mend {xs : Nat → Int32} {nx : Nat} {k18 : Int32 → z_Stt → Option (Bool × z_Stt)} {x3 : Int32} {S : z_Stt} (h1 : ¬ (x3 + 1 < 0 ∨ nx ≤ (x3 + 1).toNatClampNeg)) (h2 : ¬ (x3 + 2 < 0 ∨ nx ≤ (x3 + 2).toNatClampNeg)) (h3 : ¬ (x3 + 3 < 0 ∨ nx ≤ (x3 + 3).toNatClampNeg)) (h4 : ¬ (x3 + 4 < 0 ∨ nx ≤ (x3 + 4).toNatClampNeg)) (h5 : ¬ (x3 + 5 < 0 ∨ nx ≤ (x3 + 5).toNatClampNeg)) (hS : Inv S) (k : ∀ T, Inv T → ∃ S1, k18 (x3 + 6) T = some (true, S1)) : ∃ S1, f_L_law_296 FUEL xs nx k18 x3 S = some (true, S1) := by
  unfold f_L_law_296
  try simp only [if_pos h1, if_pos h2, if_pos h3, if_pos h4, if_pos h5]
  obtain ⟨v, S1, S2, e1, e2, hI⟩ := E_mend (xs (x3 + 1).toNatClampNeg) (xs (x3 + 2).toNatClampNeg) (xs (x3 + 3).toNatClampNeg) hS
  simp only [e1, g_bd, e2, if_true]
  exact k S2 hI
set_option maxRecDepth 100000 in
theorem lc_of {xs : Nat → Int32} {nx : Nat} {k18 : Int32 → z_Stt → Option (Bool × z_Stt)} {x3 : Int32} {S : z_Stt} (h1 : ¬ (x3 + 1 < 0 ∨ nx ≤ (x3 + 1).toNatClampNeg)) (h2 : ¬ (x3 + 2 < 0 ∨ nx ≤ (x3 + 2).toNatClampNeg)) (h3 : ¬ (x3 + 3 < 0 ∨ nx ≤ (x3 + 3).toNatClampNeg)) (h4 : ¬ (x3 + 4 < 0 ∨ nx ≤ (x3 + 4).toNatClampNeg)) (h5 : ¬ (x3 + 5 < 0 ∨ nx ≤ (x3 + 5).toNatClampNeg)) (hS : Inv S) (k : ∀ T, Inv T → ∃ S1, k18 (x3 + 6) T = some (true, S1)) : ∃ S1, f_L_law_339 FUEL xs nx k18 x3 S = some (true, S1) := by
  unfold f_L_law_339
  try simp only [if_pos h1, if_pos h2, if_pos h3, if_pos h4, if_pos h5]
  obtain ⟨v, S1, S2, e1, e2, hI⟩ := E_of (xs (x3 + 1).toNatClampNeg) (xs (x3 + 2).toNatClampNeg) hS
  simp only [e1, g_bd, e2, if_true]
  exact k S2 hI
set_option maxRecDepth 100000 in
theorem lc_feed {xs : Nat → Int32} {nx : Nat} {k18 : Int32 → z_Stt → Option (Bool × z_Stt)} {x3 : Int32} {S : z_Stt} (h1 : ¬ (x3 + 1 < 0 ∨ nx ≤ (x3 + 1).toNatClampNeg)) (h2 : ¬ (x3 + 2 < 0 ∨ nx ≤ (x3 + 2).toNatClampNeg)) (h3 : ¬ (x3 + 3 < 0 ∨ nx ≤ (x3 + 3).toNatClampNeg)) (h4 : ¬ (x3 + 4 < 0 ∨ nx ≤ (x3 + 4).toNatClampNeg)) (h5 : ¬ (x3 + 5 < 0 ∨ nx ≤ (x3 + 5).toNatClampNeg)) (hS : Inv S) (k : ∀ T, Inv T → ∃ S1, k18 (x3 + 6) T = some (true, S1)) : ∃ S1, f_L_law_372 FUEL xs nx k18 x3 S = some (true, S1) := by
  unfold f_L_law_372
  try simp only [if_pos h1, if_pos h2, if_pos h3, if_pos h4, if_pos h5]
  obtain ⟨v, S1, S2, e1, e2, hI⟩ := E_feed (xs (x3 + 1).toNatClampNeg) hS
  simp only [e1, g_bd, e2, if_true]
  exact k S2 hI
set_option maxRecDepth 100000 in
theorem lc_law {xs : Nat → Int32} {nx : Nat} {k18 : Int32 → z_Stt → Option (Bool × z_Stt)} {x3 : Int32} {S : z_Stt} (h1 : ¬ (x3 + 1 < 0 ∨ nx ≤ (x3 + 1).toNatClampNeg)) (h2 : ¬ (x3 + 2 < 0 ∨ nx ≤ (x3 + 2).toNatClampNeg)) (h3 : ¬ (x3 + 3 < 0 ∨ nx ≤ (x3 + 3).toNatClampNeg)) (h4 : ¬ (x3 + 4 < 0 ∨ nx ≤ (x3 + 4).toNatClampNeg)) (h5 : ¬ (x3 + 5 < 0 ∨ nx ≤ (x3 + 5).toNatClampNeg)) (hS : Inv S) (k : ∀ T, Inv T → ∃ S1, k18 (x3 + 6) T = some (true, S1)) : ∃ S1, f_L_law_395 FUEL xs nx k18 x3 S = some (true, S1) := by
  unfold f_L_law_395
  try simp only [if_pos h1, if_pos h2, if_pos h3, if_pos h4, if_pos h5]
  obtain ⟨v, S1, S2, e1, e2, hI⟩ := E_law hS
  simp only [e1, g_bd, e2, if_true]
  exact k S2 hI
set_option maxRecDepth 100000 in
theorem lc_open {xs : Nat → Int32} {nx : Nat} {k18 : Int32 → z_Stt → Option (Bool × z_Stt)} {x3 : Int32} {S : z_Stt} (h1 : ¬ (x3 + 1 < 0 ∨ nx ≤ (x3 + 1).toNatClampNeg)) (h2 : ¬ (x3 + 2 < 0 ∨ nx ≤ (x3 + 2).toNatClampNeg)) (h3 : ¬ (x3 + 3 < 0 ∨ nx ≤ (x3 + 3).toNatClampNeg)) (h4 : ¬ (x3 + 4 < 0 ∨ nx ≤ (x3 + 4).toNatClampNeg)) (h5 : ¬ (x3 + 5 < 0 ∨ nx ≤ (x3 + 5).toNatClampNeg)) (hS : Inv S) (k : ∀ T, Inv T → ∃ S1, k18 (x3 + 6) T = some (true, S1)) : ∃ S1, f_L_law_408 FUEL xs nx k18 x3 S = some (true, S1) := by
  unfold f_L_law_408
  try simp only [if_pos h1, if_pos h2, if_pos h3, if_pos h4, if_pos h5]
  obtain ⟨v, S1, S2, e1, e2, hI⟩ := E_open (xs (x3 + 1).toNatClampNeg) (xs (x3 + 2).toNatClampNeg) (xs (x3 + 3).toNatClampNeg) hS
  simp only [e1, g_bd, e2, lg_cmp_self, if_true]
  exact k S2 hI
set_option maxRecDepth 100000 in
theorem lc_pays {xs : Nat → Int32} {nx : Nat} {k18 : Int32 → z_Stt → Option (Bool × z_Stt)} {x3 : Int32} {S : z_Stt} (h1 : ¬ (x3 + 1 < 0 ∨ nx ≤ (x3 + 1).toNatClampNeg)) (h2 : ¬ (x3 + 2 < 0 ∨ nx ≤ (x3 + 2).toNatClampNeg)) (h3 : ¬ (x3 + 3 < 0 ∨ nx ≤ (x3 + 3).toNatClampNeg)) (h4 : ¬ (x3 + 4 < 0 ∨ nx ≤ (x3 + 4).toNatClampNeg)) (h5 : ¬ (x3 + 5 < 0 ∨ nx ≤ (x3 + 5).toNatClampNeg)) (hS : Inv S) (k : ∀ T, Inv T → ∃ S1, k18 (x3 + 6) T = some (true, S1)) : ∃ S1, f_L_law_452 FUEL xs nx k18 x3 S = some (true, S1) := by
  unfold f_L_law_452
  try simp only [if_pos h1, if_pos h2, if_pos h3, if_pos h4, if_pos h5]
  obtain ⟨v, S1, S2, e1, e2, hI⟩ := E_pays (xs (x3 + 1).toNatClampNeg) (xs (x3 + 2).toNatClampNeg) hS
  simp only [e1, g_bd, e2, if_true]
  exact k S2 hI
set_option maxRecDepth 100000 in
theorem lc_worth {xs : Nat → Int32} {nx : Nat} {k18 : Int32 → z_Stt → Option (Bool × z_Stt)} {x3 : Int32} {S : z_Stt} (h1 : ¬ (x3 + 1 < 0 ∨ nx ≤ (x3 + 1).toNatClampNeg)) (h2 : ¬ (x3 + 2 < 0 ∨ nx ≤ (x3 + 2).toNatClampNeg)) (h3 : ¬ (x3 + 3 < 0 ∨ nx ≤ (x3 + 3).toNatClampNeg)) (h4 : ¬ (x3 + 4 < 0 ∨ nx ≤ (x3 + 4).toNatClampNeg)) (h5 : ¬ (x3 + 5 < 0 ∨ nx ≤ (x3 + 5).toNatClampNeg)) (hS : Inv S) (k : ∀ T, Inv T → ∃ S1, k18 (x3 + 6) T = some (true, S1)) : ∃ S1, f_L_law_485 FUEL xs nx k18 x3 S = some (true, S1) := by
  unfold f_L_law_485
  try simp only [if_pos h1, if_pos h2, if_pos h3, if_pos h4, if_pos h5]
  obtain ⟨v, S1, S2, e1, e2, hI⟩ := E_worth (xs (x3 + 1).toNatClampNeg) (xs (x3 + 2).toNatClampNeg) (xs (x3 + 3).toNatClampNeg) hS
  simp only [e1, g_bd, e2, lg_cmp_self, if_true]
  exact k S2 hI
set_option maxRecDepth 100000 in
theorem lc_howFar {xs : Nat → Int32} {nx : Nat} {k18 : Int32 → z_Stt → Option (Bool × z_Stt)} {x3 : Int32} {S : z_Stt} (h1 : ¬ (x3 + 1 < 0 ∨ nx ≤ (x3 + 1).toNatClampNeg)) (h2 : ¬ (x3 + 2 < 0 ∨ nx ≤ (x3 + 2).toNatClampNeg)) (h3 : ¬ (x3 + 3 < 0 ∨ nx ≤ (x3 + 3).toNatClampNeg)) (h4 : ¬ (x3 + 4 < 0 ∨ nx ≤ (x3 + 4).toNatClampNeg)) (h5 : ¬ (x3 + 5 < 0 ∨ nx ≤ (x3 + 5).toNatClampNeg)) (hS : Inv S) (k : ∀ T, Inv T → ∃ S1, k18 (x3 + 6) T = some (true, S1)) : ∃ S1, f_L_law_529 FUEL xs nx k18 x3 S = some (true, S1) := by
  unfold f_L_law_529
  try simp only [if_pos h1, if_pos h2, if_pos h3, if_pos h4, if_pos h5]
  obtain ⟨v, S1, S2, e1, e2, hI⟩ := E_howFar (xs (x3 + 1).toNatClampNeg) hS
  simp only [e1, g_bd, e2, if_true]
  exact k S2 hI
set_option maxRecDepth 100000 in
theorem lc_best {xs : Nat → Int32} {nx : Nat} {k18 : Int32 → z_Stt → Option (Bool × z_Stt)} {x3 : Int32} {S : z_Stt} (h1 : ¬ (x3 + 1 < 0 ∨ nx ≤ (x3 + 1).toNatClampNeg)) (h2 : ¬ (x3 + 2 < 0 ∨ nx ≤ (x3 + 2).toNatClampNeg)) (h3 : ¬ (x3 + 3 < 0 ∨ nx ≤ (x3 + 3).toNatClampNeg)) (h4 : ¬ (x3 + 4 < 0 ∨ nx ≤ (x3 + 4).toNatClampNeg)) (h5 : ¬ (x3 + 5 < 0 ∨ nx ≤ (x3 + 5).toNatClampNeg)) (hS : Inv S) (k : ∀ T, Inv T → ∃ S1, k18 (x3 + 6) T = some (true, S1)) : ∃ S1, f_L_law_552 FUEL xs nx k18 x3 S = some (true, S1) := by
  unfold f_L_law_552
  try simp only [if_pos h1, if_pos h2, if_pos h3, if_pos h4, if_pos h5]
  obtain ⟨v, S1, S2, e1, e2, hI⟩ := E_best (xs (x3 + 1).toNatClampNeg) (xs (x3 + 2).toNatClampNeg) (xs (x3 + 3).toNatClampNeg) hS
  simp only [e1, g_bd, e2, lg_cmp_self, if_true]
  exact k S2 hI
set_option maxRecDepth 100000 in
theorem lc_gone {xs : Nat → Int32} {nx : Nat} {k18 : Int32 → z_Stt → Option (Bool × z_Stt)} {x3 : Int32} {S : z_Stt} (h1 : ¬ (x3 + 1 < 0 ∨ nx ≤ (x3 + 1).toNatClampNeg)) (h2 : ¬ (x3 + 2 < 0 ∨ nx ≤ (x3 + 2).toNatClampNeg)) (h3 : ¬ (x3 + 3 < 0 ∨ nx ≤ (x3 + 3).toNatClampNeg)) (h4 : ¬ (x3 + 4 < 0 ∨ nx ≤ (x3 + 4).toNatClampNeg)) (h5 : ¬ (x3 + 5 < 0 ∨ nx ≤ (x3 + 5).toNatClampNeg)) (hS : Inv S) (k : ∀ T, Inv T → ∃ S1, k18 (x3 + 6) T = some (true, S1)) : ∃ S1, f_L_law_596 FUEL xs nx k18 x3 S = some (true, S1) := by
  unfold f_L_law_596
  try simp only [if_pos h1, if_pos h2, if_pos h3, if_pos h4, if_pos h5]
  obtain ⟨v, S1, S2, e1, e2, hI⟩ := E_gone (xs (x3 + 1).toNatClampNeg) (xs (x3 + 2).toNatClampNeg) hS
  simp only [e1, g_bd, e2, if_true]
  exact k S2 hI
set_option maxRecDepth 100000 in
theorem lc_plan {xs : Nat → Int32} {nx : Nat} {k18 : Int32 → z_Stt → Option (Bool × z_Stt)} {x3 : Int32} {S : z_Stt} (h1 : ¬ (x3 + 1 < 0 ∨ nx ≤ (x3 + 1).toNatClampNeg)) (h2 : ¬ (x3 + 2 < 0 ∨ nx ≤ (x3 + 2).toNatClampNeg)) (h3 : ¬ (x3 + 3 < 0 ∨ nx ≤ (x3 + 3).toNatClampNeg)) (h4 : ¬ (x3 + 4 < 0 ∨ nx ≤ (x3 + 4).toNatClampNeg)) (h5 : ¬ (x3 + 5 < 0 ∨ nx ≤ (x3 + 5).toNatClampNeg)) (hS : Inv S) (k : ∀ T, Inv T → ∃ S1, k18 (x3 + 6) T = some (true, S1)) : ∃ S1, f_L_law_629 FUEL xs nx k18 x3 S = some (true, S1) := by
  unfold f_L_law_629
  try simp only [if_pos h1, if_pos h2, if_pos h3, if_pos h4, if_pos h5]
  obtain ⟨v, S1, S2, e1, e2, hI⟩ := E_plan (xs (x3 + 1).toNatClampNeg) (xs (x3 + 2).toNatClampNeg) (xs (x3 + 3).toNatClampNeg) hS
  simp only [e1, g_bd, e2, lg_cmp_self, if_true]
  exact k S2 hI
set_option maxRecDepth 100000 in
theorem lc_rung {xs : Nat → Int32} {nx : Nat} {k18 : Int32 → z_Stt → Option (Bool × z_Stt)} {x3 : Int32} {S : z_Stt} (h1 : ¬ (x3 + 1 < 0 ∨ nx ≤ (x3 + 1).toNatClampNeg)) (h2 : ¬ (x3 + 2 < 0 ∨ nx ≤ (x3 + 2).toNatClampNeg)) (h3 : ¬ (x3 + 3 < 0 ∨ nx ≤ (x3 + 3).toNatClampNeg)) (h4 : ¬ (x3 + 4 < 0 ∨ nx ≤ (x3 + 4).toNatClampNeg)) (h5 : ¬ (x3 + 5 < 0 ∨ nx ≤ (x3 + 5).toNatClampNeg)) (hS : Inv S) (k : ∀ T, Inv T → ∃ S1, k18 (x3 + 6) T = some (true, S1)) : ∃ S1, f_L_law_673 FUEL xs nx k18 x3 S = some (true, S1) := by
  unfold f_L_law_673
  try simp only [if_pos h1, if_pos h2, if_pos h3, if_pos h4, if_pos h5]
  obtain ⟨v, S1, S2, e1, e2, hI⟩ := E_rung hS
  simp only [e1, g_bd, e2, if_true]
  exact k S2 hI
set_option maxRecDepth 100000 in
theorem lc_two {xs : Nat → Int32} {nx : Nat} {k18 : Int32 → z_Stt → Option (Bool × z_Stt)} {x3 : Int32} {S : z_Stt} (h1 : ¬ (x3 + 1 < 0 ∨ nx ≤ (x3 + 1).toNatClampNeg)) (h2 : ¬ (x3 + 2 < 0 ∨ nx ≤ (x3 + 2).toNatClampNeg)) (h3 : ¬ (x3 + 3 < 0 ∨ nx ≤ (x3 + 3).toNatClampNeg)) (h4 : ¬ (x3 + 4 < 0 ∨ nx ≤ (x3 + 4).toNatClampNeg)) (h5 : ¬ (x3 + 5 < 0 ∨ nx ≤ (x3 + 5).toNatClampNeg)) (hS : Inv S) (k : ∀ T, Inv T → ∃ S1, k18 (x3 + 6) T = some (true, S1)) : ∃ S1, f_L_law_686 FUEL xs nx k18 x3 S = some (true, S1) := by
  unfold f_L_law_686
  try simp only [if_pos h1, if_pos h2, if_pos h3, if_pos h4, if_pos h5]
  obtain ⟨v, S1, S2, e1, e2, hI⟩ := E_two (xs (x3 + 1).toNatClampNeg) (xs (x3 + 2).toNatClampNeg) (xs (x3 + 3).toNatClampNeg) hS
  simp only [e1, g_bd, e2, lg_cmp_self, if_true]
  exact k S2 hI
set_option maxRecDepth 100000 in
theorem lc_shortest {xs : Nat → Int32} {nx : Nat} {k18 : Int32 → z_Stt → Option (Bool × z_Stt)} {x3 : Int32} {S : z_Stt} (h1 : ¬ (x3 + 1 < 0 ∨ nx ≤ (x3 + 1).toNatClampNeg)) (h2 : ¬ (x3 + 2 < 0 ∨ nx ≤ (x3 + 2).toNatClampNeg)) (h3 : ¬ (x3 + 3 < 0 ∨ nx ≤ (x3 + 3).toNatClampNeg)) (h4 : ¬ (x3 + 4 < 0 ∨ nx ≤ (x3 + 4).toNatClampNeg)) (h5 : ¬ (x3 + 5 < 0 ∨ nx ≤ (x3 + 5).toNatClampNeg)) (hS : Inv S) (k : ∀ T, Inv T → ∃ S1, k18 (x3 + 6) T = some (true, S1)) : ∃ S1, f_L_law_730 FUEL xs nx k18 x3 S = some (true, S1) := by
  unfold f_L_law_730
  try simp only [if_pos h1, if_pos h2, if_pos h3, if_pos h4, if_pos h5]
  obtain ⟨v, S1, S2, e1, e2, hI⟩ := E_shortest (xs (x3 + 1).toNatClampNeg) (xs (x3 + 2).toNatClampNeg) (xs (x3 + 3).toNatClampNeg) hS
  simp only [e1, g_bd, e2, if_true]
  exact k S2 hI
set_option maxRecDepth 100000 in
theorem lc_length {xs : Nat → Int32} {nx : Nat} {k18 : Int32 → z_Stt → Option (Bool × z_Stt)} {x3 : Int32} {S : z_Stt} (h1 : ¬ (x3 + 1 < 0 ∨ nx ≤ (x3 + 1).toNatClampNeg)) (h2 : ¬ (x3 + 2 < 0 ∨ nx ≤ (x3 + 2).toNatClampNeg)) (h3 : ¬ (x3 + 3 < 0 ∨ nx ≤ (x3 + 3).toNatClampNeg)) (h4 : ¬ (x3 + 4 < 0 ∨ nx ≤ (x3 + 4).toNatClampNeg)) (h5 : ¬ (x3 + 5 < 0 ∨ nx ≤ (x3 + 5).toNatClampNeg)) (hS : Inv S) (k : ∀ T, Inv T → ∃ S1, k18 (x3 + 6) T = some (true, S1)) : ∃ S1, f_L_law_773 FUEL xs nx k18 x3 S = some (true, S1) := by
  unfold f_L_law_773
  try simp only [if_pos h1, if_pos h2, if_pos h3, if_pos h4, if_pos h5]
  obtain ⟨v, S1, S2, e1, e2, hI⟩ := E_length (xs (x3 + 1).toNatClampNeg) (xs (x3 + 2).toNatClampNeg) hS
  simp only [e1, g_bd, e2, if_true]
  exact k S2 hI
set_option maxRecDepth 100000 in
theorem lc_list {xs : Nat → Int32} {nx : Nat} {k18 : Int32 → z_Stt → Option (Bool × z_Stt)} {x3 : Int32} {S : z_Stt} (h1 : ¬ (x3 + 1 < 0 ∨ nx ≤ (x3 + 1).toNatClampNeg)) (h2 : ¬ (x3 + 2 < 0 ∨ nx ≤ (x3 + 2).toNatClampNeg)) (h3 : ¬ (x3 + 3 < 0 ∨ nx ≤ (x3 + 3).toNatClampNeg)) (h4 : ¬ (x3 + 4 < 0 ∨ nx ≤ (x3 + 4).toNatClampNeg)) (h5 : ¬ (x3 + 5 < 0 ∨ nx ≤ (x3 + 5).toNatClampNeg)) (hS : Inv S) (k : ∀ T, Inv T → ∃ S1, k18 (x3 + 6) T = some (true, S1)) : ∃ S1, f_L_law_806 FUEL xs nx k18 x3 S = some (true, S1) := by
  unfold f_L_law_806
  try simp only [if_pos h1, if_pos h2, if_pos h3, if_pos h4, if_pos h5]
  obtain ⟨v, S1, S2, e1, e2, hI⟩ := E_list (xs (x3 + 1).toNatClampNeg) (xs (x3 + 2).toNatClampNeg) hS
  simp only [e1, g_bd, e2, lg_cmp_self, if_true]
  exact k S2 hI
set_option maxRecDepth 100000 in
theorem lc_ever {xs : Nat → Int32} {nx : Nat} {k18 : Int32 → z_Stt → Option (Bool × z_Stt)} {x3 : Int32} {S : z_Stt} (h1 : ¬ (x3 + 1 < 0 ∨ nx ≤ (x3 + 1).toNatClampNeg)) (h2 : ¬ (x3 + 2 < 0 ∨ nx ≤ (x3 + 2).toNatClampNeg)) (h3 : ¬ (x3 + 3 < 0 ∨ nx ≤ (x3 + 3).toNatClampNeg)) (h4 : ¬ (x3 + 4 < 0 ∨ nx ≤ (x3 + 4).toNatClampNeg)) (h5 : ¬ (x3 + 5 < 0 ∨ nx ≤ (x3 + 5).toNatClampNeg)) (hS : Inv S) (k : ∀ T, Inv T → ∃ S1, k18 (x3 + 6) T = some (true, S1)) : ∃ S1, f_L_law_840 FUEL xs nx k18 x3 S = some (true, S1) := by
  unfold f_L_law_840
  try simp only [if_pos h1, if_pos h2, if_pos h3, if_pos h4, if_pos h5]
  obtain ⟨v, S1, S2, e1, e2, hI⟩ := E_ever (xs (x3 + 1).toNatClampNeg) (xs (x3 + 2).toNatClampNeg) (xs (x3 + 3).toNatClampNeg) hS
  simp only [e1, g_bd, e2, lg_cmp_self, if_true]
  exact k S2 hI
set_option maxRecDepth 100000 in
theorem lc_camera {xs : Nat → Int32} {nx : Nat} {k18 : Int32 → z_Stt → Option (Bool × z_Stt)} {x3 : Int32} {S : z_Stt} (h1 : ¬ (x3 + 1 < 0 ∨ nx ≤ (x3 + 1).toNatClampNeg)) (h2 : ¬ (x3 + 2 < 0 ∨ nx ≤ (x3 + 2).toNatClampNeg)) (h3 : ¬ (x3 + 3 < 0 ∨ nx ≤ (x3 + 3).toNatClampNeg)) (h4 : ¬ (x3 + 4 < 0 ∨ nx ≤ (x3 + 4).toNatClampNeg)) (h5 : ¬ (x3 + 5 < 0 ∨ nx ≤ (x3 + 5).toNatClampNeg)) (hS : Inv S) (k : ∀ T, Inv T → ∃ S1, k18 (x3 + 6) T = some (true, S1)) : ∃ S1, f_L_law_884 FUEL xs nx k18 x3 S = some (true, S1) := by
  unfold f_L_law_884
  try simp only [if_pos h1, if_pos h2, if_pos h3, if_pos h4, if_pos h5]
  obtain ⟨v, S1, S2, e1, e2, hI⟩ := E_camera (xs (x3 + 1).toNatClampNeg) (xs (x3 + 2).toNatClampNeg) (xs (x3 + 3).toNatClampNeg) hS
  simp only [e1, g_bd, e2, lg_cmp_self, if_true]
  exact k S2 hI
set_option maxRecDepth 100000 in
theorem lc_drawn {xs : Nat → Int32} {nx : Nat} {k18 : Int32 → z_Stt → Option (Bool × z_Stt)} {x3 : Int32} {S : z_Stt} (h1 : ¬ (x3 + 1 < 0 ∨ nx ≤ (x3 + 1).toNatClampNeg)) (h2 : ¬ (x3 + 2 < 0 ∨ nx ≤ (x3 + 2).toNatClampNeg)) (h3 : ¬ (x3 + 3 < 0 ∨ nx ≤ (x3 + 3).toNatClampNeg)) (h4 : ¬ (x3 + 4 < 0 ∨ nx ≤ (x3 + 4).toNatClampNeg)) (h5 : ¬ (x3 + 5 < 0 ∨ nx ≤ (x3 + 5).toNatClampNeg)) (hS : Inv S) (k : ∀ T, Inv T → ∃ S1, k18 (x3 + 6) T = some (true, S1)) : ∃ S1, f_L_law_928 FUEL xs nx k18 x3 S = some (true, S1) := by
  unfold f_L_law_928
  try simp only [if_pos h1, if_pos h2, if_pos h3, if_pos h4, if_pos h5]
  obtain ⟨v, S1, S2, e1, e2, hI⟩ := E_drawn (xs (x3 + 1).toNatClampNeg) (xs (x3 + 2).toNatClampNeg) (xs (x3 + 3).toNatClampNeg) (xs (x3 + 4).toNatClampNeg) hS
  simp only [e1, g_bd, e2, if_true]
  exact k S2 hI
set_option maxRecDepth 100000 in
theorem lc_fits {xs : Nat → Int32} {nx : Nat} {k18 : Int32 → z_Stt → Option (Bool × z_Stt)} {x3 : Int32} {S : z_Stt} (h1 : ¬ (x3 + 1 < 0 ∨ nx ≤ (x3 + 1).toNatClampNeg)) (h2 : ¬ (x3 + 2 < 0 ∨ nx ≤ (x3 + 2).toNatClampNeg)) (h3 : ¬ (x3 + 3 < 0 ∨ nx ≤ (x3 + 3).toNatClampNeg)) (h4 : ¬ (x3 + 4 < 0 ∨ nx ≤ (x3 + 4).toNatClampNeg)) (h5 : ¬ (x3 + 5 < 0 ∨ nx ≤ (x3 + 5).toNatClampNeg)) (hS : Inv S) (k : ∀ T, Inv T → ∃ S1, k18 (x3 + 6) T = some (true, S1)) : ∃ S1, f_L_law_981 FUEL xs nx k18 x3 S = some (true, S1) := by
  unfold f_L_law_981
  try simp only [if_pos h1, if_pos h2, if_pos h3, if_pos h4, if_pos h5]
  obtain ⟨v, S1, S2, e1, e2, hI⟩ := E_fits (xs (x3 + 1).toNatClampNeg) (xs (x3 + 2).toNatClampNeg) hS
  simp only [e1, g_bd, e2, if_true]
  exact k S2 hI
set_option maxRecDepth 100000 in
theorem lc_when {xs : Nat → Int32} {nx : Nat} {k18 : Int32 → z_Stt → Option (Bool × z_Stt)} {x3 : Int32} {S : z_Stt} (h1 : ¬ (x3 + 1 < 0 ∨ nx ≤ (x3 + 1).toNatClampNeg)) (h2 : ¬ (x3 + 2 < 0 ∨ nx ≤ (x3 + 2).toNatClampNeg)) (h3 : ¬ (x3 + 3 < 0 ∨ nx ≤ (x3 + 3).toNatClampNeg)) (h4 : ¬ (x3 + 4 < 0 ∨ nx ≤ (x3 + 4).toNatClampNeg)) (h5 : ¬ (x3 + 5 < 0 ∨ nx ≤ (x3 + 5).toNatClampNeg)) (hS : Inv S) (k : ∀ T, Inv T → ∃ S1, k18 (x3 + 6) T = some (true, S1)) : ∃ S1, f_L_law_1014 FUEL xs nx k18 x3 S = some (true, S1) := by
  unfold f_L_law_1014
  try simp only [if_pos h1, if_pos h2, if_pos h3, if_pos h4, if_pos h5]
  obtain ⟨v, S1, S2, e1, e2, hI⟩ := E_when (xs (x3 + 1).toNatClampNeg) (xs (x3 + 2).toNatClampNeg) (xs (x3 + 3).toNatClampNeg) hS
  simp only [e1, g_bd, e2, if_true]
  exact k S2 hI
set_option maxRecDepth 100000 in
theorem lc_judge {xs : Nat → Int32} {nx : Nat} {k18 : Int32 → z_Stt → Option (Bool × z_Stt)} {x3 : Int32} {S : z_Stt} (h1 : ¬ (x3 + 1 < 0 ∨ nx ≤ (x3 + 1).toNatClampNeg)) (h2 : ¬ (x3 + 2 < 0 ∨ nx ≤ (x3 + 2).toNatClampNeg)) (h3 : ¬ (x3 + 3 < 0 ∨ nx ≤ (x3 + 3).toNatClampNeg)) (h4 : ¬ (x3 + 4 < 0 ∨ nx ≤ (x3 + 4).toNatClampNeg)) (h5 : ¬ (x3 + 5 < 0 ∨ nx ≤ (x3 + 5).toNatClampNeg)) (hS : Inv S) (k : ∀ T, Inv T → ∃ S1, k18 (x3 + 6) T = some (true, S1)) : ∃ S1, f_L_law_1057 FUEL xs nx k18 x3 S = some (true, S1) := by
  unfold f_L_law_1057
  try simp only [if_pos h1, if_pos h2, if_pos h3, if_pos h4, if_pos h5]
  obtain ⟨v, S1, S2, e1, e2, hI⟩ := E_judge (xs (x3 + 1).toNatClampNeg) hS
  simp only [e1, g_bd, e2, if_true]
  exact k S2 hI
set_option maxRecDepth 100000 in
theorem lc_morning {xs : Nat → Int32} {nx : Nat} {k18 : Int32 → z_Stt → Option (Bool × z_Stt)} {x3 : Int32} {S : z_Stt} (h1 : ¬ (x3 + 1 < 0 ∨ nx ≤ (x3 + 1).toNatClampNeg)) (h2 : ¬ (x3 + 2 < 0 ∨ nx ≤ (x3 + 2).toNatClampNeg)) (h3 : ¬ (x3 + 3 < 0 ∨ nx ≤ (x3 + 3).toNatClampNeg)) (h4 : ¬ (x3 + 4 < 0 ∨ nx ≤ (x3 + 4).toNatClampNeg)) (h5 : ¬ (x3 + 5 < 0 ∨ nx ≤ (x3 + 5).toNatClampNeg)) (hS : Inv S) (k : ∀ T, Inv T → ∃ S1, k18 (x3 + 6) T = some (true, S1)) : ∃ S1, f_L_law_1080 FUEL xs nx k18 x3 S = some (true, S1) := by
  unfold f_L_law_1080
  try simp only [if_pos h1, if_pos h2, if_pos h3, if_pos h4, if_pos h5]
  obtain ⟨v, S1, S2, e1, e2, hI⟩ := E_morning (xs (x3 + 1).toNatClampNeg) (xs (x3 + 2).toNatClampNeg) hS
  simp only [e1, g_bd, e2, if_true]
  exact k S2 hI
set_option maxRecDepth 100000 in
theorem lc_goBack {xs : Nat → Int32} {nx : Nat} {k18 : Int32 → z_Stt → Option (Bool × z_Stt)} {x3 : Int32} {S : z_Stt} (h1 : ¬ (x3 + 1 < 0 ∨ nx ≤ (x3 + 1).toNatClampNeg)) (h2 : ¬ (x3 + 2 < 0 ∨ nx ≤ (x3 + 2).toNatClampNeg)) (h3 : ¬ (x3 + 3 < 0 ∨ nx ≤ (x3 + 3).toNatClampNeg)) (h4 : ¬ (x3 + 4 < 0 ∨ nx ≤ (x3 + 4).toNatClampNeg)) (h5 : ¬ (x3 + 5 < 0 ∨ nx ≤ (x3 + 5).toNatClampNeg)) (hS : Inv S) (k : ∀ T, Inv T → ∃ S1, k18 (x3 + 6) T = some (true, S1)) : ∃ S1, f_L_law_1113 FUEL xs nx k18 x3 S = some (true, S1) := by
  unfold f_L_law_1113
  try simp only [if_pos h1, if_pos h2, if_pos h3, if_pos h4, if_pos h5]
  obtain ⟨v, S1, S2, e1, e2, hI⟩ := E_goBack (xs (x3 + 1).toNatClampNeg) hS
  simp only [e1, g_bd, e2, if_true]
  exact k S2 hI
set_option maxRecDepth 100000 in
theorem lc_goOn {xs : Nat → Int32} {nx : Nat} {k18 : Int32 → z_Stt → Option (Bool × z_Stt)} {x3 : Int32} {S : z_Stt} (h1 : ¬ (x3 + 1 < 0 ∨ nx ≤ (x3 + 1).toNatClampNeg)) (h2 : ¬ (x3 + 2 < 0 ∨ nx ≤ (x3 + 2).toNatClampNeg)) (h3 : ¬ (x3 + 3 < 0 ∨ nx ≤ (x3 + 3).toNatClampNeg)) (h4 : ¬ (x3 + 4 < 0 ∨ nx ≤ (x3 + 4).toNatClampNeg)) (h5 : ¬ (x3 + 5 < 0 ∨ nx ≤ (x3 + 5).toNatClampNeg)) (hS : Inv S) (k : ∀ T, Inv T → ∃ S1, k18 (x3 + 6) T = some (true, S1)) : ∃ S1, f_L_law_1136 FUEL xs nx k18 x3 S = some (true, S1) := by
  unfold f_L_law_1136
  try simp only [if_pos h1, if_pos h2, if_pos h3, if_pos h4, if_pos h5]
  obtain ⟨v, S1, S2, e1, e2, hI⟩ := E_goOn hS
  simp only [e1, g_bd, e2, if_true]
  exact k S2 hI
set_option maxRecDepth 100000 in
theorem lc_dayOff {xs : Nat → Int32} {nx : Nat} {k18 : Int32 → z_Stt → Option (Bool × z_Stt)} {x3 : Int32} {S : z_Stt} (h1 : ¬ (x3 + 1 < 0 ∨ nx ≤ (x3 + 1).toNatClampNeg)) (h2 : ¬ (x3 + 2 < 0 ∨ nx ≤ (x3 + 2).toNatClampNeg)) (h3 : ¬ (x3 + 3 < 0 ∨ nx ≤ (x3 + 3).toNatClampNeg)) (h4 : ¬ (x3 + 4 < 0 ∨ nx ≤ (x3 + 4).toNatClampNeg)) (h5 : ¬ (x3 + 5 < 0 ∨ nx ≤ (x3 + 5).toNatClampNeg)) (hS : Inv S) (k : ∀ T, Inv T → ∃ S1, k18 (x3 + 6) T = some (true, S1)) : ∃ S1, f_L_law_1149 FUEL xs nx k18 x3 S = some (true, S1) := by
  unfold f_L_law_1149
  try simp only [if_pos h1, if_pos h2, if_pos h3, if_pos h4, if_pos h5]
  obtain ⟨v, S1, S2, e1, e2, hI⟩ := E_dayOff hS
  simp only [e1, g_bd, e2, if_true]
  exact k S2 hI
set_option maxRecDepth 100000 in
theorem lc_led {xs : Nat → Int32} {nx : Nat} {k18 : Int32 → z_Stt → Option (Bool × z_Stt)} {x3 : Int32} {S : z_Stt} (h1 : ¬ (x3 + 1 < 0 ∨ nx ≤ (x3 + 1).toNatClampNeg)) (h2 : ¬ (x3 + 2 < 0 ∨ nx ≤ (x3 + 2).toNatClampNeg)) (h3 : ¬ (x3 + 3 < 0 ∨ nx ≤ (x3 + 3).toNatClampNeg)) (h4 : ¬ (x3 + 4 < 0 ∨ nx ≤ (x3 + 4).toNatClampNeg)) (h5 : ¬ (x3 + 5 < 0 ∨ nx ≤ (x3 + 5).toNatClampNeg)) (hS : Inv S) (k : ∀ T, Inv T → ∃ S1, k18 (x3 + 6) T = some (true, S1)) : ∃ S1, f_L_law_1162 FUEL xs nx k18 x3 S = some (true, S1) := by
  unfold f_L_law_1162
  try simp only [if_pos h1, if_pos h2, if_pos h3, if_pos h4, if_pos h5]
  obtain ⟨v, S1, S2, e1, e2, hI⟩ := E_led (xs (x3 + 1).toNatClampNeg) hS
  simp only [e1, g_bd, e2, if_true]
  exact k S2 hI
set_option maxRecDepth 100000 in
theorem lc_image {xs : Nat → Int32} {nx : Nat} {k18 : Int32 → z_Stt → Option (Bool × z_Stt)} {x3 : Int32} {S : z_Stt} (h1 : ¬ (x3 + 1 < 0 ∨ nx ≤ (x3 + 1).toNatClampNeg)) (h2 : ¬ (x3 + 2 < 0 ∨ nx ≤ (x3 + 2).toNatClampNeg)) (h3 : ¬ (x3 + 3 < 0 ∨ nx ≤ (x3 + 3).toNatClampNeg)) (h4 : ¬ (x3 + 4 < 0 ∨ nx ≤ (x3 + 4).toNatClampNeg)) (h5 : ¬ (x3 + 5 < 0 ∨ nx ≤ (x3 + 5).toNatClampNeg)) (hS : Inv S) (k : ∀ T, Inv T → ∃ S1, k18 (x3 + 6) T = some (true, S1)) : ∃ S1, f_L_law_1185 FUEL xs nx k18 x3 S = some (true, S1) := by
  unfold f_L_law_1185
  try simp only [if_pos h1, if_pos h2, if_pos h3, if_pos h4, if_pos h5]
  obtain ⟨v, S1, S2, e1, e2, hI⟩ := E_image hS
  simp only [e1, g_bd, e2, if_true]
  exact k S2 hI
set_option maxRecDepth 100000 in
theorem lc_back {xs : Nat → Int32} {nx : Nat} {k18 : Int32 → z_Stt → Option (Bool × z_Stt)} {x3 : Int32} {S : z_Stt} (h1 : ¬ (x3 + 1 < 0 ∨ nx ≤ (x3 + 1).toNatClampNeg)) (h2 : ¬ (x3 + 2 < 0 ∨ nx ≤ (x3 + 2).toNatClampNeg)) (h3 : ¬ (x3 + 3 < 0 ∨ nx ≤ (x3 + 3).toNatClampNeg)) (h4 : ¬ (x3 + 4 < 0 ∨ nx ≤ (x3 + 4).toNatClampNeg)) (h5 : ¬ (x3 + 5 < 0 ∨ nx ≤ (x3 + 5).toNatClampNeg)) (hS : Inv S) (k : ∀ T, Inv T → ∃ S1, k18 (x3 + 6) T = some (true, S1)) : ∃ S1, f_L_law_1198 FUEL xs nx k18 x3 S = some (true, S1) := by
  unfold f_L_law_1198
  try simp only [if_pos h1, if_pos h2, if_pos h3, if_pos h4, if_pos h5]
  obtain ⟨v, S1, S2, e1, e2, hI⟩ := E_back hS
  simp only [e1, g_bd, e2, if_true]
  exact k S2 hI
set_option maxRecDepth 100000 in
theorem lc_undo {xs : Nat → Int32} {nx : Nat} {k18 : Int32 → z_Stt → Option (Bool × z_Stt)} {x3 : Int32} {S : z_Stt} (h1 : ¬ (x3 + 1 < 0 ∨ nx ≤ (x3 + 1).toNatClampNeg)) (h2 : ¬ (x3 + 2 < 0 ∨ nx ≤ (x3 + 2).toNatClampNeg)) (h3 : ¬ (x3 + 3 < 0 ∨ nx ≤ (x3 + 3).toNatClampNeg)) (h4 : ¬ (x3 + 4 < 0 ∨ nx ≤ (x3 + 4).toNatClampNeg)) (h5 : ¬ (x3 + 5 < 0 ∨ nx ≤ (x3 + 5).toNatClampNeg)) (hS : Inv S) (k : ∀ T, Inv T → ∃ S1, k18 (x3 + 6) T = some (true, S1)) : ∃ S1, f_L_law_1211 FUEL xs nx k18 x3 S = some (true, S1) := by
  unfold f_L_law_1211
  try simp only [if_pos h1, if_pos h2, if_pos h3, if_pos h4, if_pos h5]
  obtain ⟨v, S1, S2, e1, e2, hI⟩ := E_undo hS
  simp only [e1, g_bd, e2, if_true]
  exact k S2 hI
set_option maxRecDepth 100000 in
theorem lc_redo {xs : Nat → Int32} {nx : Nat} {k18 : Int32 → z_Stt → Option (Bool × z_Stt)} {x3 : Int32} {S : z_Stt} (h1 : ¬ (x3 + 1 < 0 ∨ nx ≤ (x3 + 1).toNatClampNeg)) (h2 : ¬ (x3 + 2 < 0 ∨ nx ≤ (x3 + 2).toNatClampNeg)) (h3 : ¬ (x3 + 3 < 0 ∨ nx ≤ (x3 + 3).toNatClampNeg)) (h4 : ¬ (x3 + 4 < 0 ∨ nx ≤ (x3 + 4).toNatClampNeg)) (h5 : ¬ (x3 + 5 < 0 ∨ nx ≤ (x3 + 5).toNatClampNeg)) (hS : Inv S) (k : ∀ T, Inv T → ∃ S1, k18 (x3 + 6) T = some (true, S1)) : ∃ S1, f_L_law_1224 FUEL xs nx k18 x3 S = some (true, S1) := by
  unfold f_L_law_1224
  try simp only [if_pos h1, if_pos h2, if_pos h3, if_pos h4, if_pos h5]
  obtain ⟨v, S1, S2, e1, e2, hI⟩ := E_redo hS
  simp only [e1, g_bd, e2, if_true]
  exact k S2 hI
set_option maxRecDepth 100000 in
theorem lc_body {xs : Nat → Int32} {nx : Nat} {k18 : Int32 → z_Stt → Option (Bool × z_Stt)} {x3 : Int32} {S : z_Stt} (h1 : ¬ (x3 + 1 < 0 ∨ nx ≤ (x3 + 1).toNatClampNeg)) (h2 : ¬ (x3 + 2 < 0 ∨ nx ≤ (x3 + 2).toNatClampNeg)) (h3 : ¬ (x3 + 3 < 0 ∨ nx ≤ (x3 + 3).toNatClampNeg)) (h4 : ¬ (x3 + 4 < 0 ∨ nx ≤ (x3 + 4).toNatClampNeg)) (h5 : ¬ (x3 + 5 < 0 ∨ nx ≤ (x3 + 5).toNatClampNeg)) (hS : Inv S) (k : ∀ T, Inv T → ∃ S1, k18 (x3 + 6) T = some (true, S1)) : ∃ S1, f_L_law_1237 FUEL xs nx k18 x3 S = some (true, S1) := by
  unfold f_L_law_1237
  try simp only [if_pos h1, if_pos h2, if_pos h3, if_pos h4, if_pos h5]
  obtain ⟨v, S1, S2, e1, e2, hI⟩ := E_body (xs (x3 + 1).toNatClampNeg) hS
  simp only [e1, g_bd, e2, if_true]
  exact k S2 hI
set_option maxRecDepth 100000 in
theorem lc_act {xs : Nat → Int32} {nx : Nat} {k18 : Int32 → z_Stt → Option (Bool × z_Stt)} {x3 : Int32} {S : z_Stt} (h1 : ¬ (x3 + 1 < 0 ∨ nx ≤ (x3 + 1).toNatClampNeg)) (h2 : ¬ (x3 + 2 < 0 ∨ nx ≤ (x3 + 2).toNatClampNeg)) (h3 : ¬ (x3 + 3 < 0 ∨ nx ≤ (x3 + 3).toNatClampNeg)) (h4 : ¬ (x3 + 4 < 0 ∨ nx ≤ (x3 + 4).toNatClampNeg)) (h5 : ¬ (x3 + 5 < 0 ∨ nx ≤ (x3 + 5).toNatClampNeg)) (hS : Inv S) (k : ∀ T, Inv T → ∃ S1, k18 (x3 + 6) T = some (true, S1)) : ∃ S1, f_L_law_1260 FUEL xs nx k18 x3 S = some (true, S1) := by
  unfold f_L_law_1260
  try simp only [if_pos h1, if_pos h2, if_pos h3, if_pos h4, if_pos h5]
  obtain ⟨v, S1, S2, e1, e2, hI⟩ := E_act (xs (x3 + 1).toNatClampNeg) (xs (x3 + 2).toNatClampNeg) (xs (x3 + 3).toNatClampNeg) hS
  simp only [e1, g_bd, e2, if_true]
  exact k S2 hI
set_option maxRecDepth 100000 in
theorem lc_trace {xs : Nat → Int32} {nx : Nat} {k18 : Int32 → z_Stt → Option (Bool × z_Stt)} {x3 : Int32} {S : z_Stt} (h1 : ¬ (x3 + 1 < 0 ∨ nx ≤ (x3 + 1).toNatClampNeg)) (h2 : ¬ (x3 + 2 < 0 ∨ nx ≤ (x3 + 2).toNatClampNeg)) (h3 : ¬ (x3 + 3 < 0 ∨ nx ≤ (x3 + 3).toNatClampNeg)) (h4 : ¬ (x3 + 4 < 0 ∨ nx ≤ (x3 + 4).toNatClampNeg)) (h5 : ¬ (x3 + 5 < 0 ∨ nx ≤ (x3 + 5).toNatClampNeg)) (hS : Inv S) (k : ∀ T, Inv T → ∃ S1, k18 (x3 + 6) T = some (true, S1)) : ∃ S1, f_L_law_1303 FUEL xs nx k18 x3 S = some (true, S1) := by
  unfold f_L_law_1303
  try simp only [if_pos h1, if_pos h2, if_pos h3, if_pos h4, if_pos h5]
  obtain ⟨v, S1, S2, e1, e2, hI⟩ := E_trace (xs (x3 + 1).toNatClampNeg) hS
  simp only [e1, g_bd, e2, if_true]
  exact k S2 hI
set_option maxRecDepth 100000 in
theorem lc_keep {xs : Nat → Int32} {nx : Nat} {k18 : Int32 → z_Stt → Option (Bool × z_Stt)} {x3 : Int32} {S : z_Stt} (h1 : ¬ (x3 + 1 < 0 ∨ nx ≤ (x3 + 1).toNatClampNeg)) (h2 : ¬ (x3 + 2 < 0 ∨ nx ≤ (x3 + 2).toNatClampNeg)) (h3 : ¬ (x3 + 3 < 0 ∨ nx ≤ (x3 + 3).toNatClampNeg)) (h4 : ¬ (x3 + 4 < 0 ∨ nx ≤ (x3 + 4).toNatClampNeg)) (h5 : ¬ (x3 + 5 < 0 ∨ nx ≤ (x3 + 5).toNatClampNeg)) (hS : Inv S) (k : ∀ T, Inv T → ∃ S1, k18 (x3 + 6) T = some (true, S1)) : ∃ S1, f_L_law_1326 FUEL xs nx k18 x3 S = some (true, S1) := by
  unfold f_L_law_1326
  try simp only [if_pos h1, if_pos h2, if_pos h3, if_pos h4, if_pos h5]
  obtain ⟨v, S1, S2, e1, e2, hI⟩ := E_keep (xs (x3 + 1).toNatClampNeg) (xs (x3 + 2).toNatClampNeg) hS
  simp only [e1, g_bd, e2, if_true]
  exact k S2 hI
set_option maxRecDepth 100000 in
theorem lc_row {xs : Nat → Int32} {nx : Nat} {k18 : Int32 → z_Stt → Option (Bool × z_Stt)} {x3 : Int32} {S : z_Stt} (h1 : ¬ (x3 + 1 < 0 ∨ nx ≤ (x3 + 1).toNatClampNeg)) (h2 : ¬ (x3 + 2 < 0 ∨ nx ≤ (x3 + 2).toNatClampNeg)) (h3 : ¬ (x3 + 3 < 0 ∨ nx ≤ (x3 + 3).toNatClampNeg)) (h4 : ¬ (x3 + 4 < 0 ∨ nx ≤ (x3 + 4).toNatClampNeg)) (h5 : ¬ (x3 + 5 < 0 ∨ nx ≤ (x3 + 5).toNatClampNeg)) (hS : Inv S) (k : ∀ T, Inv T → ∃ S1, k18 (x3 + 6) T = some (true, S1)) : ∃ S1, f_L_law_1359 FUEL xs nx k18 x3 S = some (true, S1) := by
  unfold f_L_law_1359
  try simp only [if_pos h1, if_pos h2, if_pos h3, if_pos h4, if_pos h5]
  obtain ⟨v, S1, S2, e1, e2, hI⟩ := E_row (xs (x3 + 1).toNatClampNeg) (xs (x3 + 2).toNatClampNeg) (xs (x3 + 3).toNatClampNeg) hS
  simp only [e1, g_bd, e2, if_true]
  exact k S2 hI
set_option maxRecDepth 100000 in
theorem lc_put {xs : Nat → Int32} {nx : Nat} {k18 : Int32 → z_Stt → Option (Bool × z_Stt)} {x3 : Int32} {S : z_Stt} (h1 : ¬ (x3 + 1 < 0 ∨ nx ≤ (x3 + 1).toNatClampNeg)) (h2 : ¬ (x3 + 2 < 0 ∨ nx ≤ (x3 + 2).toNatClampNeg)) (h3 : ¬ (x3 + 3 < 0 ∨ nx ≤ (x3 + 3).toNatClampNeg)) (h4 : ¬ (x3 + 4 < 0 ∨ nx ≤ (x3 + 4).toNatClampNeg)) (h5 : ¬ (x3 + 5 < 0 ∨ nx ≤ (x3 + 5).toNatClampNeg)) (hS : Inv S) (k : ∀ T, Inv T → ∃ S1, k18 (x3 + 6) T = some (true, S1)) : ∃ S1, f_L_law_1402 FUEL xs nx k18 x3 S = some (true, S1) := by
  unfold f_L_law_1402
  try simp only [if_pos h1, if_pos h2, if_pos h3, if_pos h4, if_pos h5]
  obtain ⟨v, S1, S2, e1, e2, hI⟩ := E_put (xs (x3 + 1).toNatClampNeg) (xs (x3 + 2).toNatClampNeg) (((Int32.toInt64 (xs (x3 + 3).toNatClampNeg)) <<< ((Int32.toInt64 32) &&& 63)) ||| ((Int32.toInt64 (xs (x3 + 4).toNatClampNeg)) &&& 4294967295)) hS
  simp only [e1, g_bd, e2, if_true]
  exact k S2 hI
set_option maxRecDepth 100000 in
theorem lc_element {xs : Nat → Int32} {nx : Nat} {k18 : Int32 → z_Stt → Option (Bool × z_Stt)} {x3 : Int32} {S : z_Stt} (h1 : ¬ (x3 + 1 < 0 ∨ nx ≤ (x3 + 1).toNatClampNeg)) (h2 : ¬ (x3 + 2 < 0 ∨ nx ≤ (x3 + 2).toNatClampNeg)) (h3 : ¬ (x3 + 3 < 0 ∨ nx ≤ (x3 + 3).toNatClampNeg)) (h4 : ¬ (x3 + 4 < 0 ∨ nx ≤ (x3 + 4).toNatClampNeg)) (h5 : ¬ (x3 + 5 < 0 ∨ nx ≤ (x3 + 5).toNatClampNeg)) (hS : Inv S) (k : ∀ T, Inv T → ∃ S1, k18 (x3 + 6) T = some (true, S1)) : ∃ S1, f_L_law_1475 FUEL xs nx k18 x3 S = some (true, S1) := by
  unfold f_L_law_1475
  try simp only [if_pos h1, if_pos h2, if_pos h3, if_pos h4, if_pos h5]
  obtain ⟨v, S1, S2, e1, e2, hI⟩ := E_element (xs (x3 + 1).toNatClampNeg) (xs (x3 + 2).toNatClampNeg) hS
  simp only [e1, g_bd, e2, lg_cmp_self, if_true]
  exact k S2 hI
set_option maxRecDepth 100000 in
theorem lc_shift {xs : Nat → Int32} {nx : Nat} {k18 : Int32 → z_Stt → Option (Bool × z_Stt)} {x3 : Int32} {S : z_Stt} (h1 : ¬ (x3 + 1 < 0 ∨ nx ≤ (x3 + 1).toNatClampNeg)) (h2 : ¬ (x3 + 2 < 0 ∨ nx ≤ (x3 + 2).toNatClampNeg)) (h3 : ¬ (x3 + 3 < 0 ∨ nx ≤ (x3 + 3).toNatClampNeg)) (h4 : ¬ (x3 + 4 < 0 ∨ nx ≤ (x3 + 4).toNatClampNeg)) (h5 : ¬ (x3 + 5 < 0 ∨ nx ≤ (x3 + 5).toNatClampNeg)) (hS : Inv S) (k : ∀ T, Inv T → ∃ S1, k18 (x3 + 6) T = some (true, S1)) : ∃ S1, f_L_law_1509 FUEL xs nx k18 x3 S = some (true, S1) := by
  unfold f_L_law_1509
  try simp only [if_pos h1, if_pos h2, if_pos h3, if_pos h4, if_pos h5]
  obtain ⟨v, S1, S2, e1, e2, hI⟩ := E_shift (xs (x3 + 1).toNatClampNeg) (xs (x3 + 2).toNatClampNeg) (xs (x3 + 3).toNatClampNeg) (xs (x3 + 4).toNatClampNeg) (xs (x3 + 5).toNatClampNeg) hS
  simp only [e1, g_bd, e2, if_true]
  exact k S2 hI
set_option maxRecDepth 100000 in
theorem lc_taken {xs : Nat → Int32} {nx : Nat} {k18 : Int32 → z_Stt → Option (Bool × z_Stt)} {x3 : Int32} {S : z_Stt} (h1 : ¬ (x3 + 1 < 0 ∨ nx ≤ (x3 + 1).toNatClampNeg)) (h2 : ¬ (x3 + 2 < 0 ∨ nx ≤ (x3 + 2).toNatClampNeg)) (h3 : ¬ (x3 + 3 < 0 ∨ nx ≤ (x3 + 3).toNatClampNeg)) (h4 : ¬ (x3 + 4 < 0 ∨ nx ≤ (x3 + 4).toNatClampNeg)) (h5 : ¬ (x3 + 5 < 0 ∨ nx ≤ (x3 + 5).toNatClampNeg)) (hS : Inv S) (k : ∀ T, Inv T → ∃ S1, k18 (x3 + 6) T = some (true, S1)) : ∃ S1, f_L_law_1572 FUEL xs nx k18 x3 S = some (true, S1) := by
  unfold f_L_law_1572
  try simp only [if_pos h1, if_pos h2, if_pos h3, if_pos h4, if_pos h5]
  obtain ⟨v, S1, S2, e1, e2, hI⟩ := E_taken (xs (x3 + 1).toNatClampNeg) (xs (x3 + 2).toNatClampNeg) hS
  simp only [e1, g_bd, e2, if_true]
  exact k S2 hI
set_option maxRecDepth 100000 in
theorem lc_count {xs : Nat → Int32} {nx : Nat} {k18 : Int32 → z_Stt → Option (Bool × z_Stt)} {x3 : Int32} {S : z_Stt} (h1 : ¬ (x3 + 1 < 0 ∨ nx ≤ (x3 + 1).toNatClampNeg)) (h2 : ¬ (x3 + 2 < 0 ∨ nx ≤ (x3 + 2).toNatClampNeg)) (h3 : ¬ (x3 + 3 < 0 ∨ nx ≤ (x3 + 3).toNatClampNeg)) (h4 : ¬ (x3 + 4 < 0 ∨ nx ≤ (x3 + 4).toNatClampNeg)) (h5 : ¬ (x3 + 5 < 0 ∨ nx ≤ (x3 + 5).toNatClampNeg)) (hS : Inv S) (k : ∀ T, Inv T → ∃ S1, k18 (x3 + 6) T = some (true, S1)) : ∃ S1, f_L_law_1605 FUEL xs nx k18 x3 S = some (true, S1) := by
  unfold f_L_law_1605
  try simp only [if_pos h1, if_pos h2, if_pos h3, if_pos h4, if_pos h5]
  obtain ⟨v, S1, S2, e1, e2, hI⟩ := E_count (xs (x3 + 1).toNatClampNeg) hS
  simp only [e1, g_bd, e2, if_true]
  exact k S2 hI
theorem idx_ok {i nx j : Nat} {c x3 : Int32} (hx : x3 = Int32.ofNat i) (hc : c = Int32.ofNat j) (hj : j ≤ 5) (hi : i + 6 ≤ nx) (hn : nx ≤ 3072) : ¬ (x3 + c < 0 ∨ nx ≤ (x3 + c).toNatClampNeg) := by
  have e : x3 + c = Int32.ofNat (i + j) := by rw [hx, hc, ← Int32.ofNat_add]
  have q : (Int32.ofNat (i + j)).toInt = (i + j : Int) := by
    rw [Int32.toInt_ofNat_of_lt (by omega)]
    rfl
  rw [e]
  rintro (h | h)
  · rw [Int32.lt_iff_toInt_lt, q] at h
    have z : (0 : Int32).toInt = 0 := rfl
    omega
  · have z : (Int32.ofNat (i + j)).toNatClampNeg = i + j := by
      show (Int32.ofNat (i + j)).toInt.toNat = _
      rw [q]; omega
    omega
set_option maxRecDepth 100000 in
set_option maxHeartbeats 4000000 in
theorem law_go {xs : Nat → Int32} {nx : Nat} (hn : nx ≤ 3072) : ∀ (m i : Nat) (x3 : Int32) (S : z_Stt), x3 = Int32.ofNat i → nx + 6 ≤ i + 6 * m → i ≤ nx + 5 → Inv S → ∃ S1, f_L_law_18 FUEL xs nx m x3 S = some (true, S1) := by
  intro m
  induction m with
  | zero => intro i x3 S hx h1 h2 hS; omega
  | succ m ih =>
    intro i x3 S hx h1 h2 hS
    rw [f_L_law_18]
    have q : x3.toInt = (i : Int) := by rw [hx, Int32.toInt_ofNat_of_lt (by omega)]
    by_cases c : Int32.ofNat nx - 6 < x3
    · exact ⟨S, if_pos c⟩
    · have hi : i + 6 ≤ nx := by
        rw [Int32.lt_iff_toInt_lt, Int32.toInt_sub, Int32.toInt_ofNat_of_lt (by omega), q] at c
        have z : (6 : Int32).toInt = 6 := rfl
        rw [z, Int.bmod_eq_of_le (by omega) (by omega)] at c
        omega
      have h0 : ¬ (x3 < 0 ∨ nx ≤ x3.toNatClampNeg) := by
        have := idx_ok (c := 0) (j := 0) hx rfl (by omega) hi hn
        rwa [show x3 + 0 = x3 from by simp] at this
      have b1 := idx_ok (c := 1) (j := 1) hx rfl (by omega) hi hn
      have b2 := idx_ok (c := 2) (j := 2) hx rfl (by omega) hi hn
      have b3 := idx_ok (c := 3) (j := 3) hx rfl (by omega) hi hn
      have b4 := idx_ok (c := 4) (j := 4) hx rfl (by omega) hi hn
      have b5 := idx_ok (c := 5) (j := 5) hx rfl (by omega) hi hn
      have k : ∀ T, Inv T → ∃ S1, f_L_law_18 FUEL xs nx m (x3 + 6) T = some (true, S1) := fun T hT => ih (i + 6) (x3 + 6) T (by rw [hx, show (6 : Int32) = Int32.ofNat 6 from rfl, ← Int32.ofNat_add]) (by omega) (by omega) hT
      rw [if_neg c, if_pos h0]
      by_cases c0 : (xs x3.toNatClampNeg) &&& 63 = 0
      · rw [if_pos c0]; exact lc_thing b1 b2 b3 b4 b5 hS k
      rw [if_neg c0]
      by_cases c1 : (xs x3.toNatClampNeg) &&& 63 = 1
      · rw [if_pos c1]; exact lc_things b1 b2 b3 b4 b5 hS k
      rw [if_neg c1]
      by_cases c2 : (xs x3.toNatClampNeg) &&& 63 = 2
      · rw [if_pos c2]; exact lc_mend b1 b2 b3 b4 b5 hS k
      rw [if_neg c2]
      by_cases c3 : (xs x3.toNatClampNeg) &&& 63 = 3
      · rw [if_pos c3]; exact lc_of b1 b2 b3 b4 b5 hS k
      rw [if_neg c3]
      by_cases c4 : (xs x3.toNatClampNeg) &&& 63 = 4
      · rw [if_pos c4]; exact lc_feed b1 b2 b3 b4 b5 hS k
      rw [if_neg c4]
      by_cases c5 : (xs x3.toNatClampNeg) &&& 63 = 5
      · rw [if_pos c5]; exact lc_law b1 b2 b3 b4 b5 hS k
      rw [if_neg c5]
      by_cases c6 : (xs x3.toNatClampNeg) &&& 63 = 6
      · rw [if_pos c6]; exact lc_open b1 b2 b3 b4 b5 hS k
      rw [if_neg c6]
      by_cases c7 : (xs x3.toNatClampNeg) &&& 63 = 7
      · rw [if_pos c7]; exact lc_pays b1 b2 b3 b4 b5 hS k
      rw [if_neg c7]
      by_cases c8 : (xs x3.toNatClampNeg) &&& 63 = 8
      · rw [if_pos c8]; exact lc_worth b1 b2 b3 b4 b5 hS k
      rw [if_neg c8]
      by_cases c9 : (xs x3.toNatClampNeg) &&& 63 = 9
      · rw [if_pos c9]; exact lc_howFar b1 b2 b3 b4 b5 hS k
      rw [if_neg c9]
      by_cases c10 : (xs x3.toNatClampNeg) &&& 63 = 10
      · rw [if_pos c10]; exact lc_best b1 b2 b3 b4 b5 hS k
      rw [if_neg c10]
      by_cases c11 : (xs x3.toNatClampNeg) &&& 63 = 11
      · rw [if_pos c11]; exact lc_gone b1 b2 b3 b4 b5 hS k
      rw [if_neg c11]
      by_cases c12 : (xs x3.toNatClampNeg) &&& 63 = 12
      · rw [if_pos c12]; exact lc_plan b1 b2 b3 b4 b5 hS k
      rw [if_neg c12]
      by_cases c13 : (xs x3.toNatClampNeg) &&& 63 = 13
      · rw [if_pos c13]; exact lc_rung b1 b2 b3 b4 b5 hS k
      rw [if_neg c13]
      by_cases c14 : (xs x3.toNatClampNeg) &&& 63 = 14
      · rw [if_pos c14]; exact lc_two b1 b2 b3 b4 b5 hS k
      rw [if_neg c14]
      by_cases c15 : (xs x3.toNatClampNeg) &&& 63 = 15
      · rw [if_pos c15]; exact lc_shortest b1 b2 b3 b4 b5 hS k
      rw [if_neg c15]
      by_cases c16 : (xs x3.toNatClampNeg) &&& 63 = 16
      · rw [if_pos c16]; exact lc_length b1 b2 b3 b4 b5 hS k
      rw [if_neg c16]
      by_cases c17 : (xs x3.toNatClampNeg) &&& 63 = 17
      · rw [if_pos c17]; exact lc_list b1 b2 b3 b4 b5 hS k
      rw [if_neg c17]
      by_cases c18 : (xs x3.toNatClampNeg) &&& 63 = 18
      · rw [if_pos c18]; exact lc_ever b1 b2 b3 b4 b5 hS k
      rw [if_neg c18]
      by_cases c19 : (xs x3.toNatClampNeg) &&& 63 = 19
      · rw [if_pos c19]; exact lc_camera b1 b2 b3 b4 b5 hS k
      rw [if_neg c19]
      by_cases c20 : (xs x3.toNatClampNeg) &&& 63 = 20
      · rw [if_pos c20]; exact lc_drawn b1 b2 b3 b4 b5 hS k
      rw [if_neg c20]
      by_cases c21 : (xs x3.toNatClampNeg) &&& 63 = 21
      · rw [if_pos c21]; exact lc_fits b1 b2 b3 b4 b5 hS k
      rw [if_neg c21]
      by_cases c22 : (xs x3.toNatClampNeg) &&& 63 = 22
      · rw [if_pos c22]; exact lc_when b1 b2 b3 b4 b5 hS k
      rw [if_neg c22]
      by_cases c23 : (xs x3.toNatClampNeg) &&& 63 = 23
      · rw [if_pos c23]; exact lc_judge b1 b2 b3 b4 b5 hS k
      rw [if_neg c23]
      by_cases c24 : (xs x3.toNatClampNeg) &&& 63 = 24
      · rw [if_pos c24]; exact lc_morning b1 b2 b3 b4 b5 hS k
      rw [if_neg c24]
      by_cases c25 : (xs x3.toNatClampNeg) &&& 63 = 25
      · rw [if_pos c25]; exact lc_goBack b1 b2 b3 b4 b5 hS k
      rw [if_neg c25]
      by_cases c26 : (xs x3.toNatClampNeg) &&& 63 = 26
      · rw [if_pos c26]; exact lc_goOn b1 b2 b3 b4 b5 hS k
      rw [if_neg c26]
      by_cases c27 : (xs x3.toNatClampNeg) &&& 63 = 27
      · rw [if_pos c27]; exact lc_dayOff b1 b2 b3 b4 b5 hS k
      rw [if_neg c27]
      by_cases c28 : (xs x3.toNatClampNeg) &&& 63 = 28
      · rw [if_pos c28]; exact lc_led b1 b2 b3 b4 b5 hS k
      rw [if_neg c28]
      by_cases c29 : (xs x3.toNatClampNeg) &&& 63 = 29
      · rw [if_pos c29]; exact lc_image b1 b2 b3 b4 b5 hS k
      rw [if_neg c29]
      by_cases c30 : (xs x3.toNatClampNeg) &&& 63 = 30
      · rw [if_pos c30]; exact lc_back b1 b2 b3 b4 b5 hS k
      rw [if_neg c30]
      by_cases c31 : (xs x3.toNatClampNeg) &&& 63 = 31
      · rw [if_pos c31]; exact lc_undo b1 b2 b3 b4 b5 hS k
      rw [if_neg c31]
      by_cases c32 : (xs x3.toNatClampNeg) &&& 63 = 32
      · rw [if_pos c32]; exact lc_redo b1 b2 b3 b4 b5 hS k
      rw [if_neg c32]
      by_cases c33 : (xs x3.toNatClampNeg) &&& 63 = 33
      · rw [if_pos c33]; exact lc_body b1 b2 b3 b4 b5 hS k
      rw [if_neg c33]
      by_cases c34 : (xs x3.toNatClampNeg) &&& 63 = 34
      · rw [if_pos c34]; exact lc_act b1 b2 b3 b4 b5 hS k
      rw [if_neg c34]
      by_cases c35 : (xs x3.toNatClampNeg) &&& 63 = 35
      · rw [if_pos c35]; exact lc_trace b1 b2 b3 b4 b5 hS k
      rw [if_neg c35]
      by_cases c36 : (xs x3.toNatClampNeg) &&& 63 = 36
      · rw [if_pos c36]; exact lc_keep b1 b2 b3 b4 b5 hS k
      rw [if_neg c36]
      by_cases c37 : (xs x3.toNatClampNeg) &&& 63 = 37
      · rw [if_pos c37]; exact lc_row b1 b2 b3 b4 b5 hS k
      rw [if_neg c37]
      by_cases c38 : (xs x3.toNatClampNeg) &&& 63 = 38
      · rw [if_pos c38]; exact lc_put b1 b2 b3 b4 b5 hS k
      rw [if_neg c38]
      by_cases c39 : (xs x3.toNatClampNeg) &&& 63 = 39
      · rw [if_pos c39]; exact lc_element b1 b2 b3 b4 b5 hS k
      rw [if_neg c39]
      by_cases c40 : (xs x3.toNatClampNeg) &&& 63 = 40
      · rw [if_pos c40]; exact lc_shift b1 b2 b3 b4 b5 hS k
      rw [if_neg c40]
      by_cases c41 : (xs x3.toNatClampNeg) &&& 63 = 41
      · rw [if_pos c41]; exact lc_taken b1 b2 b3 b4 b5 hS k
      rw [if_neg c41]
      by_cases c42 : (xs x3.toNatClampNeg) &&& 63 = 42
      · rw [if_pos c42]; exact lc_count b1 b2 b3 b4 b5 hS k
      rw [if_neg c42]
      exact k S hS
