/-! said: the call -/
theorem said_both {P N p : Nat} {X Y : MM} {S G : Nat → Int32} (hS : Y.1 2 = S) (hL : wLd S P N) (hW : wSt S P N) (hX : rLd X S P N) (hR : rSt 29 X S P N) (hY : rSy 130 X S P N) (h0 : X.1 130 4 ≠ 0) (hp : p < P) : ∃ v G', fX8_holdsOf (nI p) X = some v ∧ fX13_isSaid (nI p) (sR 18 Y G) = some (v, sR 18 Y G') := by
  obtain ⟨n, ones, a1, a2, a3, a4, a5, a6, a7, a8⟩ := hY
  have ho : ones ≠ 0 := fun e => h0 (by rw [a4, e]; rfl)
  have hn : n ≠ 0 := fun e => ho (a6.mpr e)
  have hd : sDp S n = some 1 := by
    rcases a7 with e | e
    · exact absurd e hn
    · exact e
  have := said_loop (p := p) (n := n) hS hL hW hX hR hp a1 a2 a3 hd a8 n 0 mx_fu mx_fu 0 G [] (by omega) (by unfold mx_fu; omega) (by unfold mx_fu; omega) rfl (Nat.le_refl _) (fun i => by rw [zero_bit]; rfl) trivial
  exact this
theorem said_people {P N : Nat} {X Y : MM} {S : Nat → Int32} {i : Int32} (hS : Y.1 2 = S) (hL : wLd S P N) (hW : wSt S P N) (hX : rLd X S P N) (hR : rSt 29 X S P N) (hY : rSy 130 X S P N) (h0 : X.1 130 4 ≠ 0) : ∀ c p f g many G, p + c = P → c < f → c < g → ∃ v G', fX12_said_21 i X f many (nI p) = some v ∧ fX13_said_26 i g many (nI p) (sR 18 Y G) = some (v, sR 18 Y G') := by
  have hP := hL.2.1
  intro c
  induction c with
  | zero =>
    intro p f g many G hp hf hg
    obtain ⟨f, rfl⟩ : ∃ z, f = z + 1 := ⟨f - 1, by omega⟩
    obtain ⟨g, rfl⟩ : ∃ z, g = z + 1 := ⟨g - 1, by omega⟩
    rw [fX12_said_21, fX13_said_26, hX.1, sR_n (by omega), hS, hL.1, if_pos (nI_le (by omega) (by omega)), if_pos (nI_le (by omega) (by omega))]
    by_cases e : i = -1
    · rw [if_pos e, if_pos e]; exact ⟨_, G, rfl, rfl⟩
    · rw [if_neg e, if_neg e]; exact ⟨_, G, rfl, rfl⟩
  | succ c ih =>
    intro p f g many G hp hf hg
    obtain ⟨f, rfl⟩ : ∃ z, f = z + 1 := ⟨f - 1, by omega⟩
    obtain ⟨g, rfl⟩ : ∃ z, g = z + 1 := ⟨g - 1, by omega⟩
    obtain ⟨v, G1, v1, v2⟩ := said_both (G := G) hS hL hW hX hR hY h0 (show p < P by omega)
    rw [fX12_said_21, fX13_said_26, hX.1, sR_n (by omega), hS, hL.1, if_neg (nI_ge (by omega) (by omega)), if_neg (nI_ge (by omega) (by omega)), v1, v2]
    simp only [pb_bs]
    rw [nI_1]
    cases v
    · rw [if_pos b_f, if_pos b_f]; exact ih (p + 1) f g many G1 (by omega) (by omega) (by omega)
    · rw [if_neg b_t, if_neg b_t]
      by_cases e : many = i
      · rw [if_pos e, if_pos e]; exact ⟨_, G1, rfl, rfl⟩
      · rw [if_neg e, if_neg e]; exact ih (p + 1) f g _ G1 (by omega) (by omega) (by omega)
theorem sR_kp {Y Y' : MM} {c : Nat} {F : Nat → Int32} (h : yKp Y Y') (hc : c = 3 ∨ c = 4 ∨ c = 8 ∨ c = 9 ∨ c = 11 ∨ c = 13 ∨ c = 14 ∨ c = 17 ∨ c = 18) : yKp Y (sR c Y' F) := by
  refine h.tr ⟨sR_n (by omega), sR_n (by omega), sR_n (by omega), sR_n (by omega), sR_n (by omega), sR_n (by omega), sR_n (by omega), sR_n (by omega), fun i hi => by rw [sR_n (by omega)], fun _ _ => rfl, rfl, rfl⟩
theorem q_said {X Y : MM} {P N : Nat} {i : Int32} (h : Inv X Y P N) : RO (fX12_said i X) X (fX13_said i Y) := by
  rw [fX12_said, fX13_said, th2]
  obtain ⟨n, ones, a1, a2, a3, a4, a5, a6, a7, a8⟩ := h.sy
  have he : (X.1 130 4 = 0) = (Y.1 2 113 = 0) := by
    rw [a4, a3]
    apply propext
    have h1 : nI ones = 0 ↔ ones = 0 := nI_eq (b := 0) (by omega) (by omega)
    have h2 : nI n = 0 ↔ n = 0 := nI_eq (b := 0) (by omega) (by omega)
    rw [h1, h2]
    exact a6
  by_cases e0 : X.1 130 4 = 0
  · rw [if_pos e0, if_pos (by rw [← he]; exact e0)]; exact ⟨_, _, rfl, rfl, P, N, h.th⟩
  · have e0' : ¬ Y.1 2 113 = 0 := by rw [← he]; exact e0
    rw [if_neg e0, if_neg e0']
    by_cases e1 : (-1 : Int32) ≤ i
    · rw [if_pos e1, if_pos e1]
      obtain ⟨v, G, v1, v2⟩ := said_people (Y := mx_si Y 0 0 (0 : Int32)) (S := Y.1 2) (i := i) th2' h.ld h.st h.rl h.rs h.sy e0 P 0 mx_fu mx_fu 0 ((mx_si Y 0 0 (0 : Int32)).1 18) (by omega) (by have := h.p7; unfold mx_fu; omega) (by have := h.p7; unfold mx_fu; omega)
      rw [sR_self, nI_0] at v2
      rw [nI_0] at v1
      rw [v1, v2]
      exact ⟨_, _, rfl, rfl, P, N, Inv.kp xKp.rf (sR_kp (yKp.rf.th (by omega)) (by omega)) (by rw [sR_n (by omega), th2']) h⟩
    · rw [if_neg e1, if_neg e1]; exact ⟨_, _, rfl, rfl, P, N, h.th⟩
