/-! THE INVARIANT: what every reachable state keeps, of the class's part (W_) and between the class's part and the reference's (R_) -/
def FUEL : Nat := 4000
def mostAt (k : Nat) : Int32 := if k < 6 then 144 else if k < 18 then 12 else if k < 24 then 999 else if k < 30 then 1 else if k < 36 then 5 else 99
/-- bit t of a word -/
def sb (w : Int32) (t : Nat) : Int32 := (w >>> (Int32.ofNat t &&& 31)) &&& 1
def plOk (th p : Int32) : Prop := 0 ≤ p ∧ p < 75 ∧ (36 ≤ p ∨ p % 6 < th)
def wTold (th : Int32) (nu : Nat → Int32) : Prop := (0 ≤ th ∧ th ≤ 6) ∧ (∀ k, k < 75 → 0 ≤ nu k ∧ nu k ≤ mostAt k) ∧ ∀ t : Nat, t < 6 → th.toNatClampNeg ≤ t → nu (24 + t) = 0 ∧ nu (30 + t) = 0
def wChg (th : Int32) (pl ol ne : Nat → Int32) (sz dn : Int32) : Prop := 0 ≤ dn ∧ dn ≤ sz ∧ sz ≤ 40 ∧ ∀ k, k < sz.toNatClampNeg → plOk th (pl k) ∧ (0 ≤ ol k ∧ ol k ≤ mostAt (pl k).toNatClampNeg) ∧ (0 ≤ ne k ∧ ne k ≤ mostAt (pl k).toNatClampNeg)
def wDays (th : Int32) (us : Nat → Int32) (si va ru thg op : Int32) : Prop := (∀ t, t < 6 → (0 ≤ us t ∧ us t ≤ 12) ∧ (th.toNatClampNeg ≤ t → us t = 0 ∧ sb si t = 0)) ∧ (0 ≤ va ∧ va ≤ 99) ∧ (0 ≤ ru ∧ ru ≤ 12) ∧ (-1 ≤ thg ∧ thg < th ∨ thg = -1) ∧ (op = 0 ∨ op = 1)
/-- a text that has no fault, whatever the letters stand for -/
def lawFine (tx : Nat → Int32) (sz : Int32) : Prop := ∀ S : z_Stt, S.1 1303 = sz → (S.2.2.2.2 1302 = 14 ∨ S.2.2.2.2 1302 = 15) → S.2.2.1 (S.2.2.2.2 1302) = tx → ∃ (v : Int32) (T : z_Stt), f_X6_lines FUEL S = some (v, T) ∧ T.1 1306 = -1
def wLaw (rt rx : Nat) (tp tx : Nat → Int32) (td sz : Int32) : Prop := (rt = 14 ∧ rx = 15 ∨ rt = 15 ∧ rx = 14) ∧ (0 ≤ td ∧ td ≤ 120) ∧ (∀ k, k < td.toNatClampNeg → 0 ≤ tp k ∧ tp k ≤ 255) ∧ (0 ≤ sz ∧ sz ≤ 120) ∧ (∀ k, k < sz.toNatClampNeg → 0 ≤ tx k ∧ tx k ≤ 255) ∧ (0 < sz → lawFine tx sz)
def wGo (ki : Nat → Int32) (sz ra : Int32) : Prop := (0 ≤ sz ∧ sz ≤ 50) ∧ (∀ k, k < sz.toNatClampNeg → 0 ≤ ki k ∧ ki k ≤ 7) ∧ (0 ≤ ra ∧ ra ≤ 1000)
def inSort (so : Int32) (v : Int64) : Prop := (so = 0 → -128 ≤ v ∧ v ≤ 127) ∧ (so = 1 → -32768 ≤ v ∧ v ≤ 32767) ∧ (so = 2 → -2147483648 ≤ v ∧ v ≤ 2147483647) ∧ (so = 4 → v = 0 ∨ v = 1)
def wShelf (bo ho go so sz : Int32) (el : Nat → Int64) : Prop := (ho = 0 ∨ ho = 1 ∨ ho = 2) ∧ (ho = 1 → 0 ≤ go ∧ go < bo) ∧ (ho = 2 → (0 ≤ so ∧ so ≤ 4) ∧ (0 ≤ sz ∧ sz ≤ 60) ∧ ∀ i, i < 60 → inSort so (el i))
/-- fields of shelf d -/
def shH (S : z_Stt) (d : Nat) : Int32 := S.1 (100 * (36 + 2 * d) + 0)
def shG (S : z_Stt) (d : Nat) : Int32 := S.1 (100 * (36 + 2 * d) + 1)
def shS (S : z_Stt) (d : Nat) : Int32 := S.1 (100 * (36 + 2 * d) + 2)
def shN (S : z_Stt) (d : Nat) : Int32 := S.1 (100 * (36 + 2 * d) + 3)
def shE (S : z_Stt) (d : Nat) : Nat → Int64 := S.2.2.2.1 (36 + 2 * d + 1)
def rShelf (ho go so sz : Int32) (el : Nat → Int64) (ms mm : Int32) (it : Nat → Int64) : Prop := (ho = 0 → ms = -1) ∧ (ho = 1 → ms = go) ∧ (ho = 2 → ms = 50 + so ∧ mm = sz ∧ ∀ i, i < 60 → it i = el i)
def rKept (th im : Int32) (us : Nat → Int32) (si va ru thg op : Int32) (ld ig : Nat → Int32) : Prop := (0 ≤ im ∧ im ≤ th) ∧ (∀ t, t < 6 → (t < im.toNatClampNeg → us t = ig (2 * t) ∧ sb si t = ig (2 * t + 1)) ∧ (im.toNatClampNeg ≤ t → us t = 0 ∧ sb si t = 0)) ∧ ig 12 = va ∧ ig 13 = ru ∧ ig 14 = thg ∧ ig 15 = op ∧ ∀ k, k < 5 → ig (16 + k) = ld k
def rLaw (tp tx : Nat → Int32) (td sz : Int32) (mt mx : Nat → Int32) (md mz : Int32) : Prop := md = td ∧ (∀ k, k < td.toNatClampNeg → mt k = tp k) ∧ (sz = 0 ∧ mz = -1 ∨ 0 < sz ∧ mz = sz ∧ ∀ k, k < sz.toNatClampNeg → mx k = tx k)
def iTold (S : z_Stt) : Prop := wTold (S.1 101) (S.2.2.1 2) ∧ S.2.2.1 49 = S.2.2.1 2 ∧ S.1 4806 = S.1 101
def iChg (S : z_Stt) : Prop := wChg (S.1 101) (S.2.2.1 4) (S.2.2.1 5) (S.2.2.1 6) (S.1 303) (S.1 304) ∧ S.2.2.1 50 = S.2.2.1 4 ∧ S.2.2.1 51 = S.2.2.1 5 ∧ S.2.2.1 52 = S.2.2.1 6 ∧ S.1 4804 = S.1 303 ∧ S.1 4805 = S.1 304
def iDays (S : z_Stt) : Prop := wDays (S.1 101) (S.2.2.1 8) (S.1 701) (S.1 702) (S.1 703) (S.1 705) (S.1 706) ∧ S.2.2.1 53 = S.2.2.1 8 ∧ (∀ t, t < 6 → S.2.2.1 54 t = sb (S.1 701) t) ∧ S.1 4809 = S.1 702 ∧ S.1 4810 = S.1 703 ∧ S.2.2.1 62 = S.2.2.1 9 ∧ S.1 4830 = S.1 705 ∧ S.1 4831 = S.1 706
def iKept (S : z_Stt) : Prop := (S.1 4 = 0 ∨ S.1 4 = 1) ∧ S.1 4833 = S.1 4 ∧ (S.1 4 = 1 → wDays (S.1 101) (S.2.2.1 11) (S.1 1001) (S.1 1002) (S.1 1003) (S.1 1005) (S.1 1006) ∧ rKept (S.1 101) (S.1 4834) (S.2.2.1 11) (S.1 1001) (S.1 1002) (S.1 1003) (S.1 1005) (S.1 1006) (S.2.2.1 12) (S.2.2.1 63))
def iLaw (S : z_Stt) : Prop := wLaw (S.2.2.2.2 1300) (S.2.2.2.2 1302) (S.2.2.1 (S.2.2.2.2 1300)) (S.2.2.1 (S.2.2.2.2 1302)) (S.1 1301) (S.1 1303) ∧ rLaw (S.2.2.1 (S.2.2.2.2 1300)) (S.2.2.1 (S.2.2.2.2 1302)) (S.1 1301) (S.1 1303) (S.2.2.1 55) (S.2.2.1 56) (S.1 4814) (S.1 4816)
def iGo (S : z_Stt) : Prop := wGo (S.2.2.1 33) (S.1 3201) (S.1 3203) ∧ S.2.2.1 64 = S.2.2.1 33 ∧ S.1 4836 = S.1 3201 ∧ S.2.2.1 65 = S.2.2.1 34 ∧ S.1 4839 = S.1 3203
def iSh (S : z_Stt) : Prop := ∀ d, d < 6 → wShelf (S.1 3201) (shH S d) (shG S d) (shS S d) (shN S d) (shE S d) ∧ rShelf (shH S d) (shG S d) (shS S d) (shN S d) (shE S d) (S.2.2.1 66 d) (S.2.2.1 67 d) (fun i => S.2.2.2.1 68 (60 * d + i))
def Inv (S : z_Stt) : Prop := iTold S ∧ iChg S ∧ iDays S ∧ iKept S ∧ iLaw S ∧ iGo S ∧ iSh S
-- what each of them rests on
theorem iTold.of {S T : z_Stt} (h : iTold S) (e1 : T.1 101 = S.1 101) (e2 : T.2.2.1 2 = S.2.2.1 2) (e3 : T.2.2.1 49 = S.2.2.1 49) (e4 : T.1 4806 = S.1 4806) : iTold T := by
  unfold iTold; rw [e1, e2, e3, e4]; exact h
theorem iChg.of {S T : z_Stt} (h : iChg S) (e1 : T.1 101 = S.1 101) (e2 : T.2.2.1 4 = S.2.2.1 4) (e3 : T.2.2.1 5 = S.2.2.1 5) (e4 : T.2.2.1 6 = S.2.2.1 6) (e5 : T.1 303 = S.1 303) (e6 : T.1 304 = S.1 304) (e7 : T.2.2.1 50 = S.2.2.1 50) (e8 : T.2.2.1 51 = S.2.2.1 51) (e9 : T.2.2.1 52 = S.2.2.1 52) (e10 : T.1 4804 = S.1 4804) (e11 : T.1 4805 = S.1 4805) : iChg T := by
  unfold iChg; rw [e1, e2, e3, e4, e5, e6, e7, e8, e9, e10, e11]; exact h
theorem iDays.of {S T : z_Stt} (h : iDays S) (e1 : T.1 101 = S.1 101) (e2 : T.2.2.1 8 = S.2.2.1 8) (e3 : T.1 701 = S.1 701) (e4 : T.1 702 = S.1 702) (e5 : T.1 703 = S.1 703) (e6 : T.1 705 = S.1 705) (e7 : T.1 706 = S.1 706) (e8 : T.2.2.1 53 = S.2.2.1 53) (e9 : T.2.2.1 54 = S.2.2.1 54) (e10 : T.1 4809 = S.1 4809) (e11 : T.1 4810 = S.1 4810) (e12 : T.2.2.1 62 = S.2.2.1 62) (e13 : T.2.2.1 9 = S.2.2.1 9) (e14 : T.1 4830 = S.1 4830) (e15 : T.1 4831 = S.1 4831) : iDays T := by
  unfold iDays; rw [e1, e2, e3, e4, e5, e6, e7, e8, e9, e10, e11, e12, e13, e14, e15]; exact h
theorem iKept.of {S T : z_Stt} (h : iKept S) (e1 : T.1 101 = S.1 101) (e2 : T.1 4 = S.1 4) (e3 : T.1 4833 = S.1 4833) (e4 : T.2.2.1 11 = S.2.2.1 11) (e5 : T.1 1001 = S.1 1001) (e6 : T.1 1002 = S.1 1002) (e7 : T.1 1003 = S.1 1003) (e8 : T.1 1005 = S.1 1005) (e9 : T.1 1006 = S.1 1006) (e10 : T.1 4834 = S.1 4834) (e11 : T.2.2.1 12 = S.2.2.1 12) (e12 : T.2.2.1 63 = S.2.2.1 63) : iKept T := by
  unfold iKept; rw [e1, e2, e3, e4, e5, e6, e7, e8, e9, e10, e11, e12]; exact h
theorem iLaw.of {S T : z_Stt} (h : iLaw S) (e1 : T.2.2.2.2 = S.2.2.2.2) (e2 : T.2.2.1 14 = S.2.2.1 14) (e3 : T.2.2.1 15 = S.2.2.1 15) (e4 : T.1 1301 = S.1 1301) (e5 : T.1 1303 = S.1 1303) (e6 : T.2.2.1 55 = S.2.2.1 55) (e7 : T.2.2.1 56 = S.2.2.1 56) (e8 : T.1 4814 = S.1 4814) (e9 : T.1 4816 = S.1 4816) : iLaw T := by
  have q : T.2.2.1 (S.2.2.2.2 1300) = S.2.2.1 (S.2.2.2.2 1300) ∧ T.2.2.1 (S.2.2.2.2 1302) = S.2.2.1 (S.2.2.2.2 1302) := by
    rcases h.1.1 with ⟨a, b⟩ | ⟨a, b⟩ <;> rw [a, b] <;> exact ⟨by assumption, by assumption⟩
  unfold iLaw; rw [e1, q.1, q.2, e4, e5, e6, e7, e8, e9]; exact h
theorem iGo.of {S T : z_Stt} (h : iGo S) (e1 : T.2.2.1 33 = S.2.2.1 33) (e2 : T.1 3201 = S.1 3201) (e3 : T.1 3203 = S.1 3203) (e4 : T.2.2.1 64 = S.2.2.1 64) (e5 : T.1 4836 = S.1 4836) (e6 : T.2.2.1 65 = S.2.2.1 65) (e7 : T.2.2.1 34 = S.2.2.1 34) (e8 : T.1 4839 = S.1 4839) : iGo T := by
  unfold iGo; rw [e1, e2, e3, e4, e5, e6, e7, e8]; exact h
theorem iSh.of {S T : z_Stt} (h : iSh S) (e1 : T.1 3201 = S.1 3201) (e2 : ∀ n, 3600 ≤ n → n < 4800 → T.1 n = S.1 n) (e3 : ∀ k, 36 ≤ k → k < 48 → T.2.2.2.1 k = S.2.2.2.1 k) (e4 : T.2.2.1 66 = S.2.2.1 66) (e5 : T.2.2.1 67 = S.2.2.1 67) (e6 : T.2.2.2.1 68 = S.2.2.2.1 68) : iSh T := by
  intro d hd
  have q := h d hd
  have a1 : shH T d = shH S d := e2 _ (by omega) (by omega)
  have a2 : shG T d = shG S d := e2 _ (by omega) (by omega)
  have a3 : shS T d = shS S d := e2 _ (by omega) (by omega)
  have a4 : shN T d = shN S d := e2 _ (by omega) (by omega)
  have a5 : shE T d = shE S d := e3 _ (by omega) (by omega)
  rw [a1, a2, a3, a4, a5, e1, e4, e5, e6]
  exact q
theorem scI_sh {n : Nat} (h1 : 3600 ≤ n) (h2 : n < 4800) : scI n = false := by
  simp only [scI, List.contains_eq_mem, List.mem_cons, List.not_mem_nil, or_false, decide_eq_false_iff_not]
  omega
theorem scE_sh {k : Nat} (h1 : 36 ≤ k) (h2 : k < 48) : scE k = false := by
  simp only [scE, List.contains_eq_mem, List.mem_cons, List.not_mem_nil, or_false, decide_eq_false_iff_not]
  omega
theorem Inv.quiet {S T : z_Stt} (h : Inv S) (a : agQ S T) : Inv T := by
  obtain ⟨h1, h2, h3, h4, h5, h6, h7⟩ := h
  have i : ∀ n, scI n = false → T.1 n = S.1 n := a.1
  have r : ∀ k, scA k = false → T.2.2.1 k = S.2.2.1 k := a.2.1
  refine ⟨h1.of ?_ ?_ ?_ ?_, h2.of ?_ ?_ ?_ ?_ ?_ ?_ ?_ ?_ ?_ ?_ ?_, h3.of ?_ ?_ ?_ ?_ ?_ ?_ ?_ ?_ ?_ ?_ ?_ ?_ ?_ ?_ ?_, h4.of ?_ ?_ ?_ ?_ ?_ ?_ ?_ ?_ ?_ ?_ ?_ ?_, h5.of a.2.2.2 ?_ ?_ ?_ ?_ ?_ ?_ ?_ ?_, h6.of ?_ ?_ ?_ ?_ ?_ ?_ ?_ ?_, h7.of (i _ (by decide)) (fun n q1 q2 => i n (scI_sh q1 q2)) (fun k q1 q2 => a.2.2.1 k (scE_sh q1 q2)) (r _ (by decide)) (r _ (by decide)) (a.2.2.1 _ (by decide))⟩ <;> first | exact i _ (by decide) | exact r _ (by decide)
