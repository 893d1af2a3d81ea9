/-! a book: its lines lived -/
def W3 (v : Int32) : Prop := v = 0 ∨ v = 1 ∨ v = 2 ∨ v = 3
theorem W3_go {S : Nat → Int32} {q : Nat} {x y : Int32} : W3 (sWhyGo S q x y) := by
  unfold sWhyGo W3
  repeat' split
  all_goals decide
theorem W3_hand {S : Nat → Int32} {q r t : Nat} : W3 (sWhyHand S q r t) := by
  unfold sWhyHand W3
  repeat' split
  all_goals decide
theorem W3_wear {S : Nat → Int32} {N q r : Nat} : W3 (sWhyWear S N q r) := by
  unfold sWhyWear W3
  repeat' split
  all_goals decide
theorem W3_find {S : Nat → Int32} {q r : Nat} : W3 (sWhyFind S q r) := by
  unfold sWhyFind W3
  repeat' split
  all_goals decide
theorem W3_pos : ∀ w, w < 6 → ∀ v, W3 v → v ≠ 0 → ¬ nI (10 * w) + v ≤ 0 ∧ nI (10 * w) + v ≠ 0 := by
  intro w hw v hv h0
  rcases hv with rfl | rfl | rfl | rfl
  · exact absurd rfl h0
  all_goals rcases (by omega : w = 0 ∨ w = 1 ∨ w = 2 ∨ w = 3 ∨ w = 4 ∨ w = 5) with rfl | rfl | rfl | rfl | rfl | rfl <;> decide
theorem does200 {w : Nat} {a b c v : Int32} {M : MM} (hv : W3 v) : fX13_does_200 (nI w) a b c v M = some (if v = 0 then 0 else nI (10 * w) + v, M) := by
  rw [fX13_does_200]
  have e : (v ≤ 0) = (v = 0) := by rcases hv with rfl | rfl | rfl | rfl <;> decide
  simp only [e]
  by_cases h0 : v = 0
  · rw [if_pos h0, if_pos h0]
  · rw [if_neg h0, if_neg h0, c10, pk_mul]
def JS (P N i : Nat) (X Y : MM) (S : Nat → Int32) : Prop := ∃ w v X' S', w < 6 ∧ W3 v ∧ X.1 139 i = nI (10 * w) ∧ fX1_live (nI i) X = some (v, X') ∧ fX13_does (Y.1 4 (4 * i)) (Y.1 4 (4 * i + 1)) (Y.1 4 (4 * i + 2)) (Y.1 4 (4 * i + 3)) Y = some (if v = 0 then 0 else nI (10 * w) + v, sS Y S') ∧ xFr 47 X X' ∧ (v ≠ 0 → X' = X ∧ S' = S) ∧ (v = 0 → rSt 47 X' S' P N ∧ wSt S' P N ∧ sameL S S' ∧ sameC S S')
theorem j_step {P N i : Nat} {X Y : MM} {S : Nat → Int32} (hi : i < 40) (hB : BL P N i X Y) (hW : wLd S P N) (hs : wSt S P N) (hL : rLd X S P N) (hR : rSt 47 X S P N) (hY : Y.1 2 = S) : JS P N i X Y S := by
  have hP : P ≤ 7 := hW.2.1
  have hN : N ≤ 7 := hW.2.2.2.1
  have x1 : X.1 9 1 = nI N := hL.2.1.trans hW.2.2.1
  have y1 : Y.1 2 1 = nI N := by rw [hY]; exact hW.2.2.1
  have hin : mx_in (nI i) 40 = true := pb_in hi (by omega)
  have hcl : (nI i).toNatClampNeg = i := nI_clamp (by omega)
  have self : sS Y S = Y := by rw [← hY]; exact sS_self
  obtain ⟨w, b1, b2, hb⟩ := hB
  unfold JS
  have lv : fX1_live (nI i) X = if nI (10 * w) = 0 then (fX9_walkTo 47 (X.1 140 i) (X.1 141 i) (X.1 142 i) X) else if nI (10 * w) = 10 then (fX9_passOn 47 (X.1 140 i) (X.1 141 i) (X.1 142 i) X) else if nI (10 * w) = 20 then (fX9_putOn 47 (X.1 140 i) (X.1 141 i) X) else if nI (10 * w) = 30 then (fX9_takeOff 47 (X.1 140 i) X) else if nI (10 * w) = 40 then (fX9_pickUp 47 (X.1 140 i) (X.1 141 i) X) else fX1_liveDays (X.1 141 i) X := by
    have oi : ∀ a : Option (Int32 × MM), (a.bind fun q => some (q.1, q.2)) = a := fun a => by cases a <;> rfl
    rw [fX1_live, hin, hcl, b1]
    simp only [↓reduceIte, oi]
  rw [lv, b2]
  rcases hb with ⟨rfl, q, x, y, h1, h2, h3, h4, h5, h6, h7, h8, h9⟩ | ⟨rfl, q, r, t, h1, h2, h3, h4, h5, h6, h7, h8, h9⟩ | ⟨hw, q, r, h1, h2, h4, h5, h7, h8⟩ | ⟨rfl, q, h1, h4, h7⟩ | ⟨rfl, n, h1, h2, h5, h7⟩
  · obtain ⟨X', a1, a2, a3, a4, a5⟩ := x_walkTo (x := nI x) (y := nI y) hR h1 hP hN
    refine ⟨0, sWhyGo S q (nI x) (nI y), X', if sWhyGo S q (nI x) (nI y) = 0 then sGo S q (nI x) (nI y) else S, by omega, W3_go, b1, ?_, ?_, a2, fun h0 => ⟨a4 h0, if_neg h0⟩, fun h0 => ?_⟩
    · rw [if_pos (by decide), h4, h5, h6]; exact a1
    · rw [h7, h8, h9, fX13_does, if_pos (by decide), m_whyGo (by omega), hY]
      simp only [pb_bs]
      by_cases h0 : sWhyGo S q (nI x) (nI y) = 0
      · rw [if_pos h0, m_goes (by omega), hY]
        simp only [pb_bs]
        rw [does200 W3_go, if_pos h0, if_pos h0]
      · rw [if_neg h0, does200 W3_go, if_neg h0, if_neg h0, self]
    · rw [if_pos h0]
      exact ⟨a5 h0, wSt_go hP hN hs h1 h2 h3 h0, (up_go (by omega)).1, (up_go (by omega)).2⟩
  · obtain ⟨X', a1, a2, a3, a4, a5⟩ := x_passOn (hL.1.trans hW.1) hR hs h1 h2 h3 hP hN
    refine ⟨1, sWhyHand S q r t, X', if sWhyHand S q r t = 0 then sHand S r t else S, by omega, W3_hand, b1, ?_, ?_, a2, fun h0 => ⟨a4 h0, if_neg h0⟩, fun h0 => ?_⟩
    · rw [if_neg (by decide), if_pos (by decide), h4, h5, h6]; exact a1
    · rw [h7, h8, h9, fX13_does, if_neg (by decide), if_pos (by decide), m_whyHand (P := P) (N := N) (by rw [hY]; exact hs) hP h1 (by omega) h3, hY]
      simp only [pb_bs]
      by_cases h0 : sWhyHand S q r t = 0
      · rw [if_pos h0, m_hands (by omega), hY]
        simp only [pb_bs]
        rw [does200 W3_hand, if_pos h0, if_pos h0]
      · rw [if_neg h0, does200 W3_hand, if_neg h0, if_neg h0, self]
    · rw [if_pos h0]
      exact ⟨a5 h0, wSt_hand hP hN hs h3 h2, (sameL.rf.up (by omega)).up (by omega), (sameC.rf.up (by omega)).up (by omega)⟩
  · rcases hw with rfl | rfl
    · obtain ⟨X', a1, a2, a3, a4, a5⟩ := x_putOn hW hL hR h1 h2
      refine ⟨2, sWhyWear S N q r, X', if sWhyWear S N q r = 0 then upd S (85 + r) 1 else S, by omega, W3_wear, b1, ?_, ?_, a2, fun h0 => ⟨a4 h0, if_neg h0⟩, fun h0 => ?_⟩
      · rw [if_neg (by decide), if_neg (by decide), if_pos (by decide), h4, h5]; exact a1
      · rw [h7, h8, fX13_does, if_neg (by decide), if_neg (by decide), if_pos (by decide), m_whyWear hN y1 (by omega) (by omega), hY]
        simp only [pb_bs]
        by_cases h0 : sWhyWear S N q r = 0
        · rw [if_pos h0, c85, nI_add, pb_gd (by omega) (by omega), nI_clamp (by omega), sS_0, hY, does200 W3_wear, if_pos h0, if_pos h0]
        · rw [if_neg h0, does200 W3_wear, if_neg h0, if_neg h0, self]
      · rw [if_pos h0]
        exact ⟨a5 h0, wSt_how hP hN hs h2 (Or.inr (Or.inl rfl)), sameL.rf.up (by omega), sameC.rf.up (by omega)⟩
    · obtain ⟨X', a1, a2, a3, a4, a5⟩ := x_pickUp hR h1 h2 hP hN
      refine ⟨4, sWhyFind S q r, X', if sWhyFind S q r = 0 then sFind S q r else S, by omega, W3_find, b1, ?_, ?_, a2, fun h0 => ⟨a4 h0, if_neg h0⟩, fun h0 => ?_⟩
      · rw [if_neg (by decide), if_neg (by decide), if_neg (by decide), if_neg (by decide), if_pos (by decide), h4, h5]; exact a1
      · rw [h7, h8, fX13_does, if_neg (by decide), if_neg (by decide), if_neg (by decide), if_neg (by decide), if_pos (by decide), m_whyFind (P := P) (N := N) (by rw [hY]; exact hs) hP hN h1 h2, hY]
        simp only [pb_bs]
        by_cases h0 : sWhyFind S q r = 0
        · rw [if_pos h0, m_finds (by omega), hY]
          simp only [pb_bs]
          rw [does200 W3_find, if_pos h0, if_pos h0]
        · rw [if_neg h0, does200 W3_find, if_neg h0, if_neg h0, self]
      · rw [if_pos h0]
        exact ⟨a5 h0, wSt_find hP hN hs h1 h2, (((sameL.rf.up (by omega)).up (by omega)).up (by omega)).up (by omega), (((sameC.rf.up (by omega)).up (by omega)).up (by omega)).up (by omega)⟩
  · obtain ⟨X', a1, a2, a3, a4, a5⟩ := x_takeOff (q := q) x1 hR hP hN
    have hneg := sWorn_neg (S := S) (N := N) (q := nI q) hN
    have wv : W3 (if sWorn S N (nI q) = -1 then 1 else 0) := by unfold W3; split <;> decide
    refine ⟨3, if sWorn S N (nI q) = -1 then 1 else 0, X', if sWorn S N (nI q) = -1 then S else sDoff S N q, by omega, wv, b1, ?_, ?_, a2, fun h0 => ?_, fun h0 => ?_⟩
    · rw [if_neg (by decide), if_neg (by decide), if_neg (by decide), if_pos (by decide), h4]; exact a1
    · rw [h7, fX13_does, if_neg (by decide), if_neg (by decide), if_neg (by decide), if_pos (by decide), m_wornBy hN y1, hY]
      simp only [pb_bs]
      by_cases h0 : sWorn S N (nI q) = -1
      · rw [if_neg (by rw [h0]; decide), fX13_does_130, if_neg b_t, if_pos h0, if_pos h0, if_neg (by decide), self]
        exact does200 (v := 1) (by unfold W3; decide)
      · have h0' : 0 ≤ sWorn S N (nI q) := Int32.not_lt.mp (by rw [hneg]; exact h0)
        obtain ⟨e1, e2, e3, e4⟩ := sWorn_is hN h0
        rw [if_pos h0', fX13_does_130, if_pos b_f, m_wornBy hN y1, hY, if_neg h0, if_neg h0, if_pos rfl, e1]
        simp only [pb_bs]
        rw [c85, nI_add, pb_gd (by omega) (by omega), nI_clamp (by omega), sS_0, hY]
        exact does200 (v := 0) (by unfold W3; decide)
    · by_cases h1' : sWorn S N (nI q) = -1
      · exact ⟨a4 h1', if_pos h1'⟩
      · rw [if_neg h1'] at h0; exact absurd rfl h0
    · by_cases h1' : sWorn S N (nI q) = -1
      · rw [if_pos h1'] at h0; exact absurd h0 (by decide)
      · rw [if_neg h1']
        obtain ⟨e1, e2, e3, e4⟩ := sWorn_is hN h1'
        exact ⟨a5 h1', sDoff_W hP hN hs h1', sameL.rf.up (by omega), sameC.rf.up (by omega)⟩
  · obtain ⟨d, hd, ed⟩ := hs.1
    have x9 : X.1 47 9 = nI d := hR.1.trans ed
    have c1' : (nI n ≤ (400 : Int32) - nI d) = (d + n ≤ 400) := by
      rw [c400, pk_sub (by omega), pb_le (by omega) (by omega)]
      apply propext
      omega
    have c2' : (nI d + nI n ≤ (400 : Int32)) = (d + n ≤ 400) := by
      rw [nI_add, c400, pb_le (by omega) (by omega)]
    obtain ⟨X', a1, a2, a3, a4⟩ := x_passDays (K := n) (by omega) (by omega) hW hL hR
    rw [if_neg (show ¬ nI (10 * 5) = (0 : Int32) by decide), if_neg (show ¬ nI (10 * 5) = (10 : Int32) by decide), if_neg (show ¬ nI (10 * 5) = (20 : Int32) by decide), if_neg (show ¬ nI (10 * 5) = (30 : Int32) by decide), if_neg (show ¬ nI (10 * 5) = (40 : Int32) by decide), h5, fX1_liveDays, x9, h7, fX13_does, if_neg (show ¬ nI 5 = (0 : Int32) by decide), if_neg (show ¬ nI 5 = (1 : Int32) by decide), if_neg (show ¬ nI 5 = (2 : Int32) by decide), if_neg (show ¬ nI 5 = (3 : Int32) by decide), if_neg (show ¬ nI 5 = (4 : Int32) by decide), hY, ed]
    simp only [c1', c2']
    by_cases h0 : d + n ≤ 400
    · rw [if_pos h0, if_pos h0, a1, m_goesOn h2 (by rw [hY]; exact hW), hY]
      simp only [pb_bs]
      refine ⟨5, 0, X', (sGoesOn P N n S).2, by omega, Or.inl rfl, b1, rfl, ?_, a2, fun q => absurd rfl q, fun _ => ⟨a4, sGoesOn_W n _ hW hs, sGoesOn_L n _ _ sameL.rf, sGoesOn_C hP hN n _ _ sameC.rf⟩⟩
      exact does200 (v := 0) (Or.inl rfl)
    · rw [if_neg h0, if_neg h0]
      refine ⟨5, 1, X, S, by omega, Or.inr (Or.inl rfl), b1, rfl, ?_, xFr.rf, fun _ => ⟨rfl, rfl⟩, fun q => absurd q (by decide)⟩
      rw [self, if_neg (by decide)]
      rfl
/-- the state of both behind i good lines -/
def JR (P N k : Nat) (X Y X0 Y0 : MM) (S0 S : Nat → Int32) : Prop := (∀ a, (a < 47 ∨ 55 < a) → a ≠ 138 → X.1 a = X0.1 a) ∧ (∀ j, j ≠ 6 → j ≠ 7 → X.1 138 j = X0.1 138 j) ∧ X.2 = X0.2 ∧ (∀ a, a ≠ 2 → a ≠ 16 → Y.1 a = Y0.1 a) ∧ (∀ j, 2 ≤ j → Y.1 16 j = Y0.1 16 j) ∧ Y.2 = Y0.2 ∧ Y.1 2 = S ∧ rSt 47 X S P N ∧ wSt S P N ∧ sameL S0 S ∧ sameC S0 S
theorem j_loop {P N k : Nat} {X0 Y0 : MM} {S0 : Nat → Int32} {i1 : Int32} (hk : k ≤ 40) (hW : wLd S0 P N) (hL : rLd X0 S0 P N) (x4 : X0.1 138 4 = nI k) (y39 : Y0.1 0 39 = nI k) (hB : ∀ i, i < k → BL P N i X0 Y0) : ∀ c i f g X Y S, i + c = k → c + 1 < f → c + 1 < g → JR P N k X Y X0 Y0 S0 S → X.1 138 6 = 0 → X.1 138 7 = nI i → Y.1 16 0 = 0 → Y.1 16 1 = nI i → ∃ i' v X' Y' S', fX1_judge_12 f (nI i) X = fX1_judge_69 X' ∧ fX13_book_111 i1 g (-1) (nI i) Y = fX13_book_201 i1 (if v = 0 then -1 else nI i') Y' ∧ i ≤ i' ∧ i' ≤ k ∧ (i' = i → S' = S) ∧ X'.1 138 6 = v ∧ X'.1 138 7 = nI i' ∧ Y'.1 16 0 = v ∧ Y'.1 16 1 = nI i' ∧ JR P N k X' Y' X0 Y0 S0 S' := by
  intro c
  induction c with
  | zero =>
    intro i f g X Y S hi hf hg hJ h6 h7 h16 h161
    obtain ⟨f, rfl⟩ : ∃ z, f = z + 1 := ⟨f - 1, by omega⟩
    obtain ⟨g, rfl⟩ : ∃ z, g = z + 1 := ⟨g - 1, by omega⟩
    have hJ' := hJ
    obtain ⟨a1, a2, a3, a4, a5, a6, a7, a8, a9, a10, a11⟩ := hJ
    rw [fX1_judge_12, fX13_book_111, a2 4 (by omega) (by omega), x4, a4 0 (by omega) (by omega), y39, if_pos (nI_le (by omega) (by omega)), if_pos (nI_le (by omega) (by omega))]
    exact ⟨i, 0, X, Y, S, rfl, rfl, by omega, by omega, fun _ => rfl, h6, h7, h16, h161, hJ'⟩
  | succ c ih =>
    intro i f g X Y S hi hf hg hJ h6 h7 h16 h161
    obtain ⟨f, rfl⟩ : ∃ z, f = z + 1 := ⟨f - 1, by omega⟩
    obtain ⟨g, rfl⟩ : ∃ z, g = z + 1 := ⟨g - 1, by omega⟩
    have hJ' := hJ
    obtain ⟨a1, a2, a3, a4, a5, a6, a7, a8, a9, a10, a11⟩ := hJ
    have hP : P ≤ 7 := hW.2.1
    have hN : N ≤ 7 := hW.2.2.2.1
    have hLX : rLd X S P N := by
      have e : rLd X S0 P N := by
        rw [← rLo_9]
        exact rLo_fr (fun k k1 k2 => a1 k (by omega) (by omega)) hP hN (fun _ _ => rfl) hL
      exact rLd_same hP hN a10 e
    have bl : BL P N i X Y := (hB i (by omega)).fr (fun a q1 q2 => by rw [a1 a (by omega) (by omega)]) (fun j q1 q2 => by rw [a4 4 (by omega) (by omega)])
    obtain ⟨w, v, X1, S1, w6, hv, b1, b2, b3, b4, b5, b6⟩ := j_step (by omega) bl (wLd_same a10 hW) a9 hLX a8 a7
    have e4 : (4 : Int32) * nI i = nI (4 * i) := pk_mul 4 i
    have e1 : nI (4 * i) + (1 : Int32) = nI (4 * i + 1) := nI_add _ 1
    have e2 : nI (4 * i) + (2 : Int32) = nI (4 * i + 2) := nI_add _ 2
    have e3 : nI (4 * i) + (3 : Int32) = nI (4 * i + 3) := nI_add _ 3
    rw [fX1_judge_12, fX13_book_111, a2 4 (by omega) (by omega), x4, h6, a4 0 (by omega) (by omega), y39, if_neg (nI_ge (by omega) (by omega)), if_neg (nI_ge (by omega) (by omega)), if_pos rfl, if_neg (show ¬ (0 : Int32) ≤ -1 by decide), e4, e1, e2, e3, pb_gd (by omega) (by omega), pb_gd (by omega) (by omega), pb_gd (by omega) (by omega), pb_gd (by omega) (by omega), nI_clamp (by omega), nI_clamp (by omega), nI_clamp (by omega), nI_clamp (by omega), nI_clamp (by omega), b2, b3]
    simp only [pb_bs, si_eq]
    by_cases h0 : v = 0
    · obtain ⟨d1, d2, d3, d4⟩ := b6 h0
      have h17 : X1.1 138 7 = nI i := by rw [b4.1 138 (by omega)]; exact h7
      rw [if_pos h0, if_pos h0, if_pos (by decide), h17, nI_1, si_nj (by omega), sS_n (by omega), h161, nI_1]
      have hJ1 : JR P N k (mx_si X1 138 7 (nI (i + 1))) (mx_si (mx_si (sS Y S1) 16 0 0) 16 1 (nI (i + 1))) X0 Y0 S0 S1 := by
        refine ⟨fun a q1 q2 => by rw [si_row q2]; exact (b4.1 a (by omega)).trans (a1 a q1 q2), fun j hj hj7 => by rw [si_nj hj7, b4.1 138 (by omega)]; exact a2 j hj hj7, b4.2.trans a3, fun a q1 q2 => ?_, fun j hj => ?_, ?_, ?_, rSt_fr (fun k k1 k2 => si_row (by omega)) d1, d2, a10.tr d3, a11.tr d4⟩
        · rw [si_row q2, si_row q2, sS_n q1]; exact a4 a q1 q2
        · rw [si_nj (by omega), si_nj (by omega), sS_n (by omega)]; exact a5 j hj
        · show (sS Y S1).2 = _
          rw [sS_s]; exact a6
        · rw [si_row (by omega), si_row (by omega), sS_2]
      obtain ⟨i', v', X', Y', S', g1, g2, g3, g4, g5, g6, g67, g7, g8, g9⟩ := ih (i + 1) f g (mx_si X1 138 7 (nI (i + 1))) _ S1 (by omega) (by omega) (by omega) hJ1 (by rw [si_nj (by omega), b4.1 138 (by omega)]; exact h6) si_eq (by rw [si_nj (by omega), si_eq]) si_eq
      exact ⟨i', v', X', Y', S', g1, g2, by omega, g4, fun q => absurd q (by omega), g6, g67, g7, g8, g9⟩
    · obtain ⟨rfl, rfl⟩ := b5 h0
      obtain ⟨p1, p2⟩ := W3_pos w w6 v hv h0
      have self : sS Y S1 = Y := by rw [← a7]; exact sS_self
      rw [if_neg h0, if_neg h0, if_neg p1, pb_gd (by omega) (by omega), b1, self]
      obtain ⟨f, rfl⟩ : ∃ z, f = z + 1 := ⟨f - 1, by omega⟩
      obtain ⟨g, rfl⟩ : ∃ z, g = z + 1 := ⟨g - 1, by omega⟩
      refine ⟨i, nI (10 * w) + v, mx_si X1 138 6 (nI (10 * w) + v), mx_si Y 16 0 (nI (10 * w) + v), S1, ?_, ?_, by omega, by omega, fun _ => rfl, si_eq, by rw [si_nj (by omega)]; exact h7, si_eq, by rw [si_nj (by omega)]; exact h161, ?_⟩
      · rw [fX1_judge_12, si_nj (by omega), a2 4 (by omega) (by omega), x4, si_eq, if_neg p2]
        split <;> rfl
      · rw [fX13_book_111, if_neg p2, if_pos (show (0 : Int32) ≤ nI i from nI_pos' (by omega))]
        split <;> rfl
      · refine ⟨fun a q1 q2 => by rw [si_row q2]; exact a1 a q1 q2, fun j hj hj7 => by rw [si_nj hj]; exact a2 j hj hj7, a3, fun a q1 q2 => by rw [si_row q2]; exact a4 a q1 q2, fun j hj => by rw [si_nj (by omega)]; exact a5 j hj, a6, by rw [si_row (by omega)]; exact a7, rSt_fr (fun k k1 k2 => si_row (by omega)) a8, a9, a10, a11⟩
