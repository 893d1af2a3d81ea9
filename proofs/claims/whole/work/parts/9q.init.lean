/-! the two memories as they are built stand in the invariant -/
theorem m0l_1 : ∀ (n : Nat) (M : MM), (∀ j, (m0l n M).1 2 j = if j < n then M.1 3 j else M.1 2 j) ∧ (∀ a, a ≠ 2 → (m0l n M).1 a = M.1 a) ∧ (m0l n M).2 = M.2
  | 0, M => ⟨fun j => by rw [if_neg (by omega)]; rfl, fun _ _ => rfl, rfl⟩
  | n + 1, M => by
    obtain ⟨h1, h2, h3⟩ := m0l_1 n M
    refine ⟨fun j => ?_, fun a ha => ?_, ?_⟩
    · show (mx_si (m0l n M) 2 n ((m0l n M).1 3 n)).1 2 j = _
      rw [mx_si_eq, upd]
      by_cases hj : j = n
      · rw [if_pos hj, if_pos (by omega), h2 3 (by decide), hj]
      · rw [if_neg hj, h1 j]
        by_cases hk : j < n
        · rw [if_pos hk, if_pos (by omega)]
        · rw [if_neg hk, if_neg (by omega)]
    · show (mx_si (m0l n M) 2 n ((m0l n M).1 3 n)).1 a = _
      rw [mx_si_ne ha, h2 a ha]
    · exact h3
theorem sl_fst (M : MM) (k j : Nat) (v : Int64) : (mx_sl M k j v).1 = M.1 := rfl
theorem m0a_1 (M : MM) : (m0a M).1 = M.1 := by
  rw [m0a]
  repeat rw [sl_fst]
theorem m0a_6 : ∀ k, k < 23 → (m0a (cw_M x13)).2.1 6 k = resW k := by decide +kernel
def X0 : MM := cw_M (x12 2 2 2)
theorem X0_145 : ∀ r, r < 7 → X0.1 145 r = -1 := by decide +kernel
theorem X0_kept : ∀ i, i < 8 → X0.2.2 57 i = 58 + 9 * i := by decide +kernel
theorem X0_rf1 : ∀ k, k < 2 → X0.2.2 154 k = 158 + 23 * k ∧ X0.2.2 155 k = 168 + 23 * k ∧ X0.2.2 156 k = 177 + 23 * k := by decide +kernel
theorem X0_rf2 : ∀ i, i < 40 → X0.2.2 131 i < 24 ∧ X0.2.2 135 i < 24 ∧ X0.2.2 178 i < 24 ∧ X0.2.2 201 i < 24 := by decide +kernel
theorem X0_w : X0.1 9 0 = 0 ∧ X0.1 9 1 = 0 ∧ X0.1 9 11 = 1 ∧ X0.1 9 12 = 5 ∧ X0.1 9 13 = 4 ∧ X0.1 29 9 = 0 ∧ X0.1 29 10 = 0 ∧ X0.1 29 11 = 0 ∧ X0.1 56 1 = 0 ∧ X0.1 130 3 = 0 ∧ X0.1 130 4 = 0 ∧ X0.1 1 1 = 0 ∧ X0.1 0 18 = 0 ∧ X0.1 157 0 = 0 ∧ X0.1 157 1 = 0 ∧ X0.1 143 1 = 0 ∧ X0.1 149 0 = -1 ∧ X0.1 149 1 = -1 ∧ X0.1 152 1 = 0 ∧ X0.1 138 5 = 0 := by decide +kernel
theorem Y0_w : (cw_M x13).1 2 54 = 0 ∧ (cw_M x13).1 2 55 = 0 ∧ (cw_M x13).1 2 56 = 0 ∧ (cw_M x13).1 2 113 = 0 ∧ (cw_M x13).1 0 23 = 0 ∧ (cw_M x13).1 0 2 = 0 ∧ (cw_M x13).1 0 15 = 0 ∧ (cw_M x13).1 21 0 = 0 ∧ (cw_M x13).1 21 1 = 0 ∧ (cw_M x13).1 0 26 = -1 ∧ (cw_M x13).1 0 29 = -1 ∧ (cw_M x13).1 0 32 = 0 ∧ (cw_M x13).1 0 37 = 0 ∧ (cw_M x13).1 0 41 = 0 := by decide +kernel
theorem Inv0 : ∃ q, fX13_clears (m0a (cw_M x13)) = some q ∧ Inv X0 (m0l 54 q) 0 0 := by
  obtain ⟨q, h0, h1, h2, k0, k1, k2, k3, k4⟩ := m_clears (Y := m0a (cw_M x13))
  refine ⟨q, h0, ?_⟩
  obtain ⟨e1, e2, e3⟩ := m0l_1 54 q
  generalize m0l 54 q = Y at e1 e2 e3
  have g : ∀ a j, a ≠ 2 → a ≠ 3 → Y.1 a j = (cw_M x13).1 a j := fun a j ha hb => by rw [e2 a ha, h1 a hb, m0a_1]
  have g2 : ∀ j, ¬ j < 54 → Y.1 2 j = (cw_M x13).1 2 j := fun j hj => by rw [e1 j, if_neg hj, h1 2 (by decide), m0a_1]
  have y0 : Y.1 2 0 = 0 := by rw [e1 0]; exact k0
  have y1 : Y.1 2 1 = 0 := by rw [e1 1]; exact k1
  have y2 : Y.1 2 2 = 1 := by rw [e1 2]; exact k2
  have y3 : Y.1 2 3 = 5 := by rw [e1 3]; exact k3
  have y4 : Y.1 2 4 = 4 := by rw [e1 4]; exact k4
  obtain ⟨x1, x2, x3, x4, x5, x6, x7, x8, x9, x10, x11, x12, x13', x14, x15, x16, x17, x18, x19, x20⟩ := X0_w
  obtain ⟨z1, z2, z3, z4, z5, z6, z7, z8, z9, z10, z11, z12, z13, z14⟩ := Y0_w
  have w1 : Y.1 2 54 = 0 := (g2 54 (by decide)).trans z1
  have w2 : Y.1 2 55 = 0 := (g2 55 (by decide)).trans z2
  have w3 : Y.1 2 56 = 0 := (g2 56 (by decide)).trans z3
  have w4 : Y.1 2 113 = 0 := (g2 113 (by decide)).trans z4
  have v0 : ∀ j, Y.1 0 j = (cw_M x13).1 0 j := fun j => g 0 j (by decide) (by decide)
  refine ⟨⟨y0, by decide, y1, by decide, ⟨1, by decide, y2⟩, ⟨5, by decide, by decide, y3⟩, ⟨4, by decide, by decide, y4⟩, fun p hp => absurd hp (by omega), fun r hr => absurd hr (by omega)⟩, ⟨⟨0, by decide, w1⟩, fun p hp => absurd hp (by omega), fun r hr => absurd hr (by omega)⟩, ⟨by rw [x1, y0], by rw [x2, y1], by rw [x3, y2], by rw [x4, y3], by rw [x5, y4], fun p hp => absurd hp (by omega), fun r hr => absurd hr (by omega)⟩, ⟨by rw [x6, w1], by rw [x7, w2], by rw [x8, w3], fun p hp => absurd hp (by omega), fun r hr => absurd hr (by omega)⟩, ?_, ⟨fun p hp => absurd hp (by omega), fun r hr => absurd hr (by omega)⟩, ?_, ?_, ?_, ?_, ?_, ?_, ?_, ?_, ?_⟩
  · exact ⟨0, fun i => i, by decide, x9, by rw [v0, z5]; rfl, fun i hi => ⟨hi, X0_kept i hi⟩, fun i j _ _ h => h, fun i hi => absurd hi (by omega)⟩
  · exact ⟨0, 0, by decide, x10, w4, x11, by decide, Iff.rfl, Or.inl rfl, fun i hi => absurd hi (by omega)⟩
  · exact ⟨0, by decide, x12, by rw [v0, z6]; rfl, fun i hi => absurd hi (by omega)⟩
  · rw [x13', v0, z7]
  · refine ⟨⟨?_, fun h => absurd ?_ h⟩, ⟨?_, fun h => absurd ?_ h⟩⟩
    · rw [x14, g 21 0 (by decide) (by decide), z8]
    · rw [g 21 0 (by decide) (by decide), z8]
    · rw [x15, g 21 1 (by decide) (by decide), z9]
    · rw [g 21 1 (by decide) (by decide), z9]
  · exact ⟨⟨0, by decide, x16, Or.inr ⟨rfl, by rw [v0, z10]⟩, fun k hk => absurd hk (by omega)⟩, ⟨0, by decide, Or.inr ⟨rfl, by rw [v0, z11]⟩, fun r hr => by rw [if_neg (by omega)]; exact X0_145 r hr⟩⟩
  · exact Or.inl ⟨by rw [v0, z12], x17, x18⟩
  · exact ⟨0, by decide, x19, by rw [v0, z13]; rfl, fun i hi => absurd hi (by omega)⟩
  · exact Or.inl ⟨x20, by rw [v0, z14]⟩
  · refine ⟨X0_rf1, X0_rf2, fun k hk => ?_⟩
    rw [e3, h2]
    exact m0a_6 k hk
