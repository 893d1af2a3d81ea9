/-! a sentence: an operand -/
theorem leaf_t : ∀ w, w < 24 → (if mx_b (decide (w = 14 + 1)) = 0 then if mx_b (decide (w = 15 + 1)) = 0 then if mx_b (decide (w = 16 + 1)) = 0 then if mx_b (decide (w = 17 + 1)) = 0 then if mx_b (decide (w = 18 + 1)) = 0 then if mx_b (decide (w = 19 + 1)) = 0 then if mx_b (decide (w = 20 + 1)) = 0 then if mx_b (decide (w = 21 + 1)) = 0 then if mx_b (decide (w = 22 + 1)) = 0 then some (-1) else some 8 else some 7 else some 6 else some 5 else some 4 else some 3 else some 2 else some 1 else some 0 : Option Int32) = some (if 15 ≤ w then nI (w - 15) else -1) := by decide
theorem m_leaf {T : TX} {s : Nat} {X Y : MM} (h : LX T s X Y) : fX13_leafOf Y = some (if 15 ≤ X.2.2 8 s then nI (X.2.2 8 s - 15) else -1) := by
  rw [fX13_leafOf, show (125797149402468 : Int64) = resW 14 from rfl, show (448311357561 : Int64) = resW 15 from rfl, show (1650553445 : Int64) = resW 16 from rfl, show (6840691 : Int64) = resW 17 from rfl, show (25209 : Int64) = resW 18 from rfl, show (461262647411 : Int64) = resW 19 from rfl, show (495874044019 : Int64) = resW 20 from rfl, show (112603009869170 : Int64) = resW 21 from rfl, show (121450625394034 : Int64) = resW 22 from rfl, p_isWord h 14 (by omega), p_isWord h 15 (by omega), p_isWord h 16 (by omega), p_isWord h 17 (by omega), p_isWord h 18 (by omega), p_isWord h 19 (by omega), p_isWord h 20 (by omega), p_isWord h 21 (by omega), p_isWord h 22 (by omega)]
  simp only [pb_bs]
  exact leaf_t _ h.tk.2.1
theorem beg_t : ∀ w, w < 24 → (if xsw w = 11 then some true else if xsw w = 12 then some true else if xsw w = 13 then some true else if xsw w = 14 then some true else if xsw w = 15 then some true else if xsw w = 16 then some true else if xsw w = 17 then some true else if xsw w = 18 then some true else if xsw w = 19 then some true else if xsw w = 20 then some true else some false : Option Bool) = some (decide (14 ≤ w)) := by decide
theorem x_begins {w : Nat} {M : MM} (hw : w < 24) : fX8_beginsOne w M = some (decide (14 ≤ w)) := by
  rw [fX8_beginsOne, if_pos hw]
  exact beg_t w hw
theorem xsw_l : ∀ l, l < 9 → (xsw (15 + l) = 12 ↔ l = 0) ∧ (xsw (15 + l) = 13 ↔ l = 1) ∧ (xsw (15 + l) = 14 ↔ l = 2) ∧ (xsw (15 + l) = 15 ↔ l = 3) ∧ (xsw (15 + l) = 16 ↔ l = 4) := by decide
/-- an operand's leaf: read by both, or one fault -/
def LO (T : TX) (P N s n t ones d : Nat) (σ : List Nat) (X Y : MM) (a b : Option (Bool × MM)) : Prop :=
  (∃ s' X' Y', a = some (true, X') ∧ b = some (true, Y') ∧ WX X X' ∧ WY Y Y' ∧ SR T P N s' (n + 1) (t + 1) ones d σ [] true X' Y' ∧ s ≤ s') ∨ NW X Y a b
theorem o_leaf0 {T : TX} {P N s n t ones d l : Nat} {σ : List Nat} {X Y : MM} (h : SR T P N s n t ones d σ [] true X Y) (hl : l < 3) (hz : n + 1 + (t + 1) ≤ 2 * ones) : LO T P N s n t ones d σ X Y (fX8_readPlain (15 + l) X) ((fX13_code (nI l) (0 : Int32) (0 : Int32) Y).bind fun q140 => some (true, q140)) := by
  obtain ⟨X', Y', a1, a2, a3, a4, a5, a6, a7⟩ := h.s0.leaf (l := l) (a := 0) (b := 0) hz (by omega) (fun q => absurd q (by omega)) (fun q => absurd q (by omega)) (fun q => absurd q (by omega))
  have e : fX8_readPlain (15 + l) X = some (true, X') := by
    obtain ⟨x1, x2, x3, -, -⟩ := xsw_l l (by omega)
    rw [fX8_readPlain, if_pos (by omega), a1]
    simp only [pb_bs, propext x1, propext x2, propext x3]
    rcases (by omega : l = 0 ∨ l = 1 ∨ l = 2) with q | q | q
    · rw [if_pos q]
    · rw [if_neg (by omega), if_pos q]
    · rw [if_neg (by omega), if_neg (by omega), if_pos q]
  rw [e, a2]
  left
  exact ⟨s, X', Y', rfl, rfl, a4, a5, a3.up (a6 _ _ _ (a7 _ _ _ h.1)), by omega⟩
theorem o_leaf3 {T : TX} {P N s n t ones d l o b K : Nat} {σ : List Nat} {X Y : MM} (h : SR T P N s n t ones d σ [] true X Y) (hl : (l = 3 ∧ K = N) ∨ (l = 4 ∧ K = P)) (hN : NmR o b K X Y) (hz : n + 1 + (t + 1) ≤ 2 * ones) : LO T P N s n t ones d σ X Y ((fX7_takeNamed (fnd (fun p => decide (X.2.1 o p = X.2.1 7 s)) K) X).bind fun q62 => if (mx_b q62.1) = 0 then some (false, q62.2) else (fX8_putTaken (15 + l) (0 : Int32) q62.2).bind fun q72 => if (mx_b q72.1) = 0 then some (false, q72.2) else some (true, q72.2)) ((fX13_looksAt (nI b) (nI K) Y).bind fun q164 => fX13_operand_181 (nI l) q164.1 q164.2) := by
  rcases p_looks h.1 hN with ⟨k, hk, e, ek, el⟩ | ⟨X', Y', a1, a2, a3, a4, a5⟩
  · have hK := hN.2.1
    rw [ek, x_takeNm h.1 e (by omega), el]
    simp only [pb_bs]
    rw [if_neg b_t, fX13_operand_181, if_neg b_t, si_eq, fX8_putTaken, si_nj (by omega), si_eq]
    have nX1 : nX X (mx_si (mx_si X 3 9 (nI k)) 3 7 (nI (s + 1))) := (nX.rf.si (by omega)).si (by omega)
    have s1 := h.s0.n nX1 (nY.rf.si (j := 18) (v := nI k) (by omega))
    obtain ⟨X2, Y2, b1, b2, b3, b4, b5, b6, b7⟩ := s1.leaf (l := l) (a := 0) (b := nI k) hz (by omega) (fun q => ⟨k, by omega, rfl⟩) (fun q => ⟨k, by omega, rfl⟩) (fun q => absurd q (by omega))
    rw [b1, b2]
    simp only [pb_bs]
    have hL2 := b7 _ _ _ ((h.1.xs (k := 3) (j := 9) (v := nI k) (by omega)).ys (k := 0) (j := 18) (v := nI k) (by omega))
    obtain ⟨c1, Y3, c2, c3, c4⟩ := hL2.adv (by rw [si_nk (by omega), e]; decide) (by rw [si_nk (by omega), e]; decide)
    rw [if_neg b_t, c2]
    left
    exact ⟨s + 1, X2, Y3, rfl, rfl, nX1.w.tr b4, ((WY.rf.si (by omega)).tr b5).tr c3.y.w, (b3.n nX.rf c3.y).up (b6 _ _ _ c4), by omega⟩
  · right
    rw [a1, a2]
    simp only [pb_bs]
    rw [if_pos b_f, fX13_operand_181, if_pos b_f]
    exact ⟨X', Y', rfl, rfl, a3.w, a4.w, a5⟩
theorem o_leaf5 {T : TX} {P N s n t ones d l : Nat} {σ : List Nat} {X Y : MM} (h : SR T P N s n t ones d σ [] true X Y) (hl : 5 ≤ l ∧ l ≤ 8) (hz : n + 1 + (t + 1) ≤ 2 * ones) : LO T P N s n t ones d σ X Y ((fX8_signAt X).bind fun q116 => (fX7_takeSign q116 X).bind fun q124 => if (mx_b q124.1) = 0 then some (false, q124.2) else (fX7_takeNumber (0 : Int32) (999 : Int32) q124.2).bind fun q135 => if (mx_b q135.1) = 0 then some (false, q135.2) else (fX8_putTaken (15 + l) q116 q135.2).bind fun q146 => if (mx_b q146.1) = 0 then some (false, q146.2) else some (true, q146.2)) (if (Y.1 0 11) = (3 : Int32) then if (Y.1 0 14) < (60 : Int32) then fX13_operand_232 Y else if (Y.1 0 14) ≤ (62 : Int32) then (fX13_next Y).bind fun q245 => if (q245.1 0 11) = (2 : Int32) then (fX13_code (nI l) (Y.1 0 14) (q245.1 0 14) q245).bind fun q270 => (fX13_next q270).bind fun q274 => some (true, q274) else (fX13_bad (1 : Int32) q245).bind fun q258 => some (q258.1, q258.2) else fX13_operand_232 Y else fX13_operand_232 Y) := by
  have h1 := h.1
  have g60 := p_isSign (c := 60) h1 (by decide) (by omega)
  have g61 := p_isSign (c := 61) h1 (by decide) (by omega)
  have g62 := p_isSign (c := 62) h1 (by decide) (by omega)
  have k60 := h1.tk.sg (c := 60) (by decide) (by omega)
  have k61 := h1.tk.sg (c := 61) (by decide) (by omega)
  have k62 := h1.tk.sg (c := 62) (by decide) (by omega)
  have sgn : fX8_signAt X = some (if X.1 4 s = 5 ∧ X.1 6 s = nI 60 then nI 60 else if X.1 4 s = 5 ∧ X.1 6 s = nI 61 then nI 61 else nI 62) := by
    rw [fX8_signAt, show (60 : Int32) = nI 60 from rfl, show (61 : Int32) = nI 61 from rfl, show (62 : Int32) = nI 62 from rfl, g60.1, g61.1]
    simp only [pb_bs]
    by_cases e0 : X.1 4 s = 5 ∧ X.1 6 s = nI 60
    · rw [decide_eq_true e0, if_neg b_t, if_pos e0]
    · rw [decide_eq_false e0, if_pos b_f, if_neg e0]
      by_cases e1 : X.1 4 s = 5 ∧ X.1 6 s = nI 61
      · rw [decide_eq_true e1, if_neg b_t, if_pos e1]
      · rw [decide_eq_false e1, if_pos b_f, if_neg e1]
  rw [sgn]
  simp only [pb_bs]
  -- a sign that is there
  have go : ∀ c, (c = 60 ∨ c = 61 ∨ c = 62) → (X.1 4 s = 5 ∧ X.1 6 s = nI c) → LO T P N s n t ones d σ X Y ((fX7_takeSign (nI c) X).bind fun q124 => if (mx_b q124.1) = 0 then some (false, q124.2) else (fX7_takeNumber (0 : Int32) (999 : Int32) q124.2).bind fun q135 => if (mx_b q135.1) = 0 then some (false, q135.2) else (fX8_putTaken (15 + l) (nI c) q135.2).bind fun q146 => if (mx_b q146.1) = 0 then some (false, q146.2) else some (true, q146.2)) (if (Y.1 0 11) = (3 : Int32) then if (Y.1 0 14) < (60 : Int32) then fX13_operand_232 Y else if (Y.1 0 14) ≤ (62 : Int32) then (fX13_next Y).bind fun q245 => if (q245.1 0 11) = (2 : Int32) then (fX13_code (nI l) (Y.1 0 14) (q245.1 0 14) q245).bind fun q270 => (fX13_next q270).bind fun q274 => some (true, q274) else (fX13_bad (1 : Int32) q245).bind fun q258 => some (q258.1, q258.2) else fX13_operand_232 Y else fX13_operand_232 Y) := by
    intro c hc e
    have sc : sgC c = true := by rcases hc with rfl | rfl | rfl <;> decide
    have ky := h1.tk.sg (c := c) sc (by omega)
    have ey := ky.mp e
    have gc := (p_isSign (c := c) h1 sc (by omega)).1
    obtain ⟨a1, Y1, a2, a3, a4⟩ := h1.adv (by rw [e.1]; decide) (by rw [e.1]; decide)
    have ts : fX7_takeSign (nI c) X = some (true, mx_si X 3 7 (nI (s + 1))) := by
      rw [fX7_takeSign, gc]
      simp only [pb_bs]
      rw [decide_eq_true e, if_neg b_t, a1]
      rfl
    have lo : ¬ nI c < (60 : Int32) := by rcases hc with rfl | rfl | rfl <;> decide
    have hi : nI c ≤ (62 : Int32) := by rcases hc with rfl | rfl | rfl <;> decide
    rw [ts, if_pos ey.1, ey.2, if_neg lo, if_pos hi, a2]
    simp only [pb_bs]
    rw [if_neg b_t]
    have nX1 : nX X (mx_si X 3 7 (nI (s + 1))) := nX.rf.si (by omega)
    rcases a4.tk.num with ⟨b1, b2, v, hv, b3, b4⟩ | ⟨b1, b2⟩
    · -- a number
      have h2 := (a4.xs (k := 3) (j := 9) (v := nI v) (by omega))
      have tn : fX7_takeNumber (0 : Int32) (999 : Int32) (mx_si X 3 7 (nI (s + 1))) = some (true, mx_si (mx_si (mx_si X 3 7 (nI (s + 1))) 3 9 (nI v)) 3 7 (nI (s + 1 + 1))) := by
        obtain ⟨c1, -⟩ := h2.adv (by rw [si_nk (by omega), b1]; decide) (by rw [si_nk (by omega), b1]; decide)
        rw [fX7_takeNumber, a4.x7, a4.in_, a4.cl]
        simp only [↓reduceIte]
        rw [if_pos b1, b3, if_neg (show ¬ nI v < (0 : Int32) from nI_pos (by omega)), if_pos (show nI v ≤ (999 : Int32) from nI_le (b := 999) (by omega) (by omega)), c1]
        rfl
      rw [tn, if_pos b2, b4]
      simp only [pb_bs]
      rw [if_neg b_t, fX8_putTaken, si_nj (by omega), si_eq]
      have nX2 : nX X (mx_si (mx_si (mx_si X 3 7 (nI (s + 1))) 3 9 (nI v)) 3 7 (nI (s + 1 + 1))) := (nX1.si (by omega)).si (by omega)
      have s1 := h.s0.n nX2 a3.y
      obtain ⟨X2, Y2, d1, d2, d3, d4, d5, d6, d7⟩ := s1.leaf (l := l) (a := nI c) (b := nI v) hz hl.2 (fun q => absurd q (by omega)) (fun q => absurd q (by omega)) (fun q => by rcases hc with rfl | rfl | rfl <;> decide)
      rw [d1, d2]
      simp only [pb_bs]
      have hL2 := d7 _ _ _ h2
      obtain ⟨c1, Y3, c2, c3, c4⟩ := hL2.adv (by rw [si_nk (by omega), b1]; decide) (by rw [si_nk (by omega), b1]; decide)
      rw [if_neg b_t, c2]
      left
      exact ⟨s + 1 + 1, X2, Y3, rfl, rfl, nX2.w.tr d4, (a3.y.w.tr d5).tr c3.y.w, (d3.n nX.rf c3.y).up (d6 _ _ _ c4), by omega⟩
    · right
      rw [if_neg b2, fX7_takeNumber, a4.x7, a4.in_, a4.cl]
      simp only [↓reduceIte]
      rw [if_neg b1, ob]
      obtain ⟨X', Y', c1, c2, c3, c4, c5⟩ := p_fail a4 1
      rw [c1, c2]
      simp only [pb_bs]
      rw [if_pos b_f]
      exact ⟨X', Y', rfl, rfl, nX1.w.tr c3.w, a3.y.w.tr c4.w, c5⟩
  by_cases e0 : X.1 4 s = 5 ∧ X.1 6 s = nI 60
  · rw [if_pos e0]; exact go 60 (by omega) e0
  · rw [if_neg e0]
    by_cases e1 : X.1 4 s = 5 ∧ X.1 6 s = nI 61
    · rw [if_pos e1]; exact go 61 (by omega) e1
    · rw [if_neg e1]
      by_cases e2 : X.1 4 s = 5 ∧ X.1 6 s = nI 62
      · exact go 62 (by omega) e2
      · right
        rw [fX7_takeSign, g62.1]
        simp only [pb_bs]
        rw [decide_eq_false e2, if_pos b_f, ob]
        have r : (if (Y.1 0 11) = (3 : Int32) then if (Y.1 0 14) < (60 : Int32) then fX13_operand_232 Y else if (Y.1 0 14) ≤ (62 : Int32) then (fX13_next Y).bind fun q245 => if (q245.1 0 11) = (2 : Int32) then (fX13_code (nI l) (Y.1 0 14) (q245.1 0 14) q245).bind fun q270 => (fX13_next q270).bind fun q274 => some (true, q274) else (fX13_bad (1 : Int32) q245).bind fun q258 => some (q258.1, q258.2) else fX13_operand_232 Y else fX13_operand_232 Y) = fX13_bad (1 : Int32) Y := by
          have o232 : fX13_operand_232 Y = fX13_bad (1 : Int32) Y := ob
          rw [o232]
          by_cases y3 : Y.1 0 11 = 3
          · rw [if_pos y3]
            have h0 := h1.tk.2.2
            have m0 : ¬ Y.1 0 14 = nI 60 := fun q => e0 (k60.mpr ⟨y3, q⟩)
            have m1 : ¬ Y.1 0 14 = nI 61 := fun q => e1 (k61.mpr ⟨y3, q⟩)
            have m2 : ¬ Y.1 0 14 = nI 62 := fun q => e2 (k62.mpr ⟨y3, q⟩)
            rcases h0 with ⟨a1, a2, a3⟩ | ⟨a1, a2, a3⟩ | ⟨a1, a2, a3, a4, a5⟩ | ⟨v, hv, a1, a2, a3, a4, a5⟩ | ⟨c, hc, a1, a2, a3, a4, a5⟩
            · rw [a3] at y3; exact absurd y3 (by decide)
            · rw [a3] at y3; exact absurd y3 (by decide)
            · rw [a1] at y3; exact absurd y3 (by decide)
            · rw [a4] at y3; exact absurd y3 (by decide)
            · rw [a4] at m0 m1 m2 ⊢
              have q0 : ¬ c = 60 := fun q => m0 (by rw [q])
              have q1 : ¬ c = 61 := fun q => m1 (by rw [q])
              have q2 : ¬ c = 62 := fun q => m2 (by rw [q])
              by_cases z : c < 60
              · rw [if_pos (show nI c < (60 : Int32) from nI_lt (b := 60) z (by omega))]
              · rw [if_neg (show ¬ nI c < (60 : Int32) from nI_nlt (b := 60) (by omega) (by omega)), if_neg (show ¬ nI c ≤ (62 : Int32) from nI_ge (a := 62) (by omega) (by omega))]
          · rw [if_neg y3]
        rw [r]
        obtain ⟨X', Y', c1, c2, c3, c4, c5⟩ := p_fail h1 1
        rw [c1, c2]
        simp only [pb_bs]
        rw [if_pos b_f]
        exact ⟨X', Y', rfl, rfl, c3.w, c4.w, c5⟩
