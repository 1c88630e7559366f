/-! LAW: an operand of both -/
theorem O_step {N : Prop} {S T : z_Stt} {tx : Nat → Int32} {sz : Nat} (hE : env N S T tx sz) {n : Nat} (hn : 10 < n) {G : GT_X6_either} {H : GT_X11_either} {d : Nat} (hd : d ≤ 6) (hs : d < 6 → Sim N S T sz (d + 1) (G.2.2.2.2.2 (Int32.ofNat (d + 1))) H.2.2.2.2.2 ∧ Sim N S T sz (d + 1) (G.1 (Int32.ofNat (d + 1))) H.1) : Sim N S T sz d (f_X6_operand n G (Int32.ofNat d)) (f_X11_one n H) := by
  intro p f o hp ho
  have h1 := hE.1
  have l := e_letter f hE hp
  have b := e_byteAt f o hE hp
  have r20 : (kR T p f o).1 4820 = f := rfl
  by_cases hf : f < 0
  · by_cases q : p < sz
    · have hb := hE.2.1 p q
      rw [if_pos ⟨hf, q⟩] at l
      rw [if_pos q] at b
      have ho' := ho hf
      by_cases c1 : 48 ≤ tx p ∧ tx p ≤ 57
      · obtain ⟨v', p', i', g1, g2, g3, g4, g5, g6, g7⟩ := e_number hE n H (o := o) hf 4 0 n n p 0 (by omega) (by omega) (by omega) hp
        obtain ⟨g8, g9⟩ := g7 ⟨by omega, q, c1⟩
        have nn : nmV (tx p) < 0 := by rcases nm_ok (tx p) with z | z; exact z; exact absurd c1.2 (by lia)
        refine ⟨v', v', p', f, o, ?_, ?_, fun _ => rfl, g3, g4, fun _ => ⟨ho', g9, rfl⟩⟩
        · unfold f_X6_operand
          rw [l, g_bds, if_neg (Int32.not_lt.mpr c1.1), if_neg (Int32.not_lt.mpr c1.2)]
          unfold f_X6_number
          rw [show (0 : Int32) = Int32.ofNat 0 from rfl]
          rw [show Int32.ofNat 0 = (0 : Int32) from rfl] at g1 ⊢
          rw [g1, g_bds]
        · unfold f_X11_one
          rw [r20, if_pos hf, b, g_bds, if_neg (by lia), if_neg (by lia), if_neg (by lia), e_nm11, g_bds, if_pos nn]
          rw [show Int32.ofNat 0 = (0 : Int32) from rfl] at g2
          rw [g2, e_230 _ _ (by omega) g6]
      · have c1' : tx p < 48 ∨ 57 < tx p := by lia
        have o10 : ∀ r, f_X6_operand_22 n G (Int32.ofNat d) (tx p) (kC S p f) = r → f_X6_operand n G (Int32.ofNat d) (kC S p f) = r := by
          rintro r rfl
          unfold f_X6_operand
          rw [l, g_bds]
          by_cases z : tx p < 48
          · rw [if_pos z]
          · rw [if_neg z, if_pos (c1'.resolve_left z)]
        rcases nm_ok (tx p) with nn | nn
        · by_cases c2 : tx p = 33 ∨ tx p = 45 ∨ tx p = 40
          · have o11 : ∀ r, f_X11_one_32 n H (tx p) (kR T p f o) = r → f_X11_one n H (kR T p f o) = r := by
              rintro r rfl
              unfold f_X11_one
              rw [r20, if_pos hf, b, g_bds]
              by_cases z1 : tx p = 33
              · rw [if_pos z1]
              · rw [if_neg z1]
                by_cases z2 : tx p = 45
                · rw [if_pos z2]
                · rw [if_neg z2, if_pos ((c2.resolve_left z1).resolve_left z2)]
            by_cases hd6 : d < 6
            · obtain ⟨s1, s2⟩ := hs hd6
              obtain ⟨v, w, p', f', o', z1, z2, z3⟩ := e_sign hE n hd6 s1 s2 hf q c2
              refine ⟨v, w, p', f', o', o10 _ z1, o11 _ ?_, z3⟩
              rw [ho']; exact z2
            · have e6 : o = 6 := by rw [ho', show d = 6 by omega]; rfl
              refine ⟨0, 0, p, fxV p f, o, o10 _ (e_op22_fail hE n G hp nn (Or.inr (by rw [on_6 (by omega)]; exact hd6))), o11 _ ?_, fun _ => rfl, Nat.le_refl _, hp, fun u => absurd u (fx_0 (by omega))⟩
              have r21 : (kR T p f o).1 4821 = o := rfl
              unfold f_X11_one_32
              rw [r21, if_pos e6, e_wrong, g_bds]
          · refine ⟨0, 0, p, fxV p f, o, o10 _ (e_op22_fail hE n G hp nn (Or.inl ⟨fun z => c2 (Or.inl z.2.2), fun z => c2 (Or.inr (Or.inl z.2.2)), fun z => c2 (Or.inr (Or.inr z.2.2))⟩)), ?_, fun _ => rfl, Nat.le_refl _, hp, fun u => absurd u (fx_0 (by omega))⟩
            unfold f_X11_one
            rw [r20, if_pos hf, b, g_bds, if_neg (fun z => c2 (Or.inl z)), if_neg (fun z => c2 (Or.inr (Or.inl z))), if_neg (fun z => c2 (Or.inr (Or.inr z))), e_nm11, g_bds, if_pos nn]
            obtain ⟨n', rfl⟩ : ∃ q, n = q + 1 := ⟨n - 1, by omega⟩
            rw [f_X11_one_176, if_neg (by decide +kernel), b, g_bds]
            by_cases z1 : tx p < 48
            · rw [if_pos z1]; exact e_229 _ _ _ _ _
            · rw [if_neg z1, b, g_bds, if_pos (c1'.resolve_left z1)]; exact e_229 _ _ _ _ _
        · have n0 : ¬ nmV (tx p) < 0 := Int32.not_lt.mpr nn.1
          have vp : ¬ (nmV (tx p) < 0 ∨ 6 ≤ (nmV (tx p)).toNatClampNeg) := by rw [vp_6]; exact ⟨nn.1, nn.2.1⟩
          have r5 : (kC S p f).1 1305 = Int32.ofNat p := rfl
          have r8 : (kR T p f o).1 4818 = Int32.ofNat p := rfl
          have rn : (kR T (p + 1) f o).2.2.1 57 (nmV (tx p)).toNatClampNeg = T.2.2.1 57 (nmV (tx p)).toNatClampNeg := rfl
          refine ⟨S.2.2.1 16 (nmV (tx p)).toNatClampNeg, T.2.2.1 57 (nmV (tx p)).toNatClampNeg, p + 1, f, o, o10 _ ?_, ?_, fun y => hE.2.2.2.2 y _ (ix_l ⟨nn.1, nn.2.1⟩), by omega, by omega, fun _ => ⟨ho', by omega, rfl⟩⟩
          · unfold f_X6_operand_22
            rw [e_nm10, g_bds, if_neg n0, g_lets, r5, on_s p (by omega), kC_5, if_pos vp]
            rfl
          · have g := nn.2.2
            unfold f_X11_one
            rw [r20, if_pos hf, b, g_bds, if_neg (by lia), if_neg (by lia), if_neg (by lia), e_nm11, g_bds, if_neg n0, g_lets, r8, on_s p (by omega), kR_8, if_pos vp, rn]
    · rw [if_neg (fun r => q r.2)] at l
      rw [if_neg q] at b
      refine ⟨0, 0, p, fxV p f, o, ?_, ?_, fun _ => rfl, Nat.le_refl _, hp, fun u => absurd u (fx_0 (by omega))⟩
      · unfold f_X6_operand
        rw [l, g_bds, if_pos (by decide +kernel)]
        exact e_op22_fail hE n G hp (by decide +kernel) (Or.inl ⟨fun z => q z.2.1, fun z => q z.2.1, fun z => q z.2.1⟩)
      · unfold f_X11_one
        rw [r20, if_pos hf, b, g_bds, if_neg (by decide +kernel), if_neg (by decide +kernel), if_neg (by decide +kernel), e_nm11, g_bds, if_pos (by decide +kernel)]
        obtain ⟨n', rfl⟩ : ∃ q, n = q + 1 := ⟨n - 1, by omega⟩
        rw [f_X11_one_176, if_neg (by decide +kernel), b, g_bds, if_pos (by decide +kernel)]
        exact e_229 _ _ _ _ _
  · rw [if_neg (fun r => hf r.1)] at l
    have fx : fxV p f = f := if_pos (Int32.not_lt.mp hf)
    refine ⟨0, 0, p, f, o, ?_, ?_, fun _ => rfl, Nat.le_refl _, hp, fun u => absurd u hf⟩
    · unfold f_X6_operand
      rw [l, g_bds, if_pos (by decide +kernel)]
      have z := e_op22_fail hE n G (x := -1) (d := d) (p := p) (f := f) hp (by decide +kernel) (Or.inl ⟨fun z => hf z.1, fun z => hf z.1, fun z => hf z.1⟩)
      rw [fx] at z
      exact z
    · unfold f_X11_one
      rw [r20, if_neg hf]
