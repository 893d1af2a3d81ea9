/-! acts, whole calls -/
theorem xFr.kp {o : Nat} {X X' : MM} (h : xFr o X X') (ho : o = 38 ∨ o = 47) : xKp X X' := by
  obtain ⟨h1, h2⟩ := h
  refine ⟨by rw [h1 0 (by omega)], fun k hk => h1 k (by omega), by rw [h1 143 (by omega)], fun j _ => by rw [h1 138 (by omega)], fun k _ => by rw [h2], fun k _ => by rw [h2], fun hw i hi => by rw [h2]; exact hw i hi⟩
theorem Inv.act {X X' Y Y' : MM} {P N : Nat} (hI : Inv X Y P N) (h1 : ∀ k, (k < 29 ∨ 129 < k) → X'.1 k = X.1 k) (h2 : X'.2.1 = X.2.1) (h3 : ∀ k, k ≠ 57 → X'.2.2 k = X.2.2 k) (hY : ∀ a, a ≠ 0 → a ≠ 2 → a ≠ 7 → a ≠ 8 → Y'.1 a = Y.1 a) (hf : ∀ j, j ≠ 0 → j ≠ 23 → j ≠ 38 → Y'.1 0 j = Y.1 0 j) (hl : Y'.2 = Y.2) (hL : sameL (Y.1 2) (Y'.1 2)) (hC : sameC (Y.1 2) (Y'.1 2)) (hW : wSt (Y'.1 2) P N) (hs : rSt 29 X' (Y'.1 2) P N) (hp : rPast X' Y' P N) : Inv X' Y' P N := by
  have hP := hI.p7
  have hN := hI.n7
  refine ⟨wLd_same hL hI.ld, hW, ?_, hs, hp, ?_, ?_, ?_, ?_, ?_, ?_, ?_, ?_, ?_, ?_⟩
  · rw [← rLo_9]; exact rLo_fr (fun k a b => h1 k (by omega)) hP hN hL hI.rl
  · exact rNm_fr (by rw [h2]) (by rw [h2]) hP hN (fun i _ => by rw [hl]) hI.nm
  · exact rSy_fr (h1 _ (by omega)) (h3 _ (by omega)) (h1 _ (by omega)) (h1 _ (by omega)) hC hI.sy
  · exact rTp_fr (h1 _ (by omega)) (h1 _ (by omega)) (hf 2 (by omega) (by omega) (by omega)) (hY 1 (by omega) (by omega) (by omega) (by omega)) hI.tp
  · rw [h1 0 (by omega), hf 15 (by omega) (by omega) (by omega)]; exact hI.ft
  · exact rIm_fr (fun j hj => h1 j (by omega)) (fun j hj => by rw [h2]) (fun j hj => h3 j (by omega)) (hY 19 (by omega) (by omega) (by omega) (by omega)) (by rw [hl]) (hY 21 (by omega) (by omega) (by omega) (by omega)) hI.im
  · exact rPl_fr (by rw [h1 143 (by omega)]) (h1 _ (by omega)) (h1 _ (by omega)) (hf 26 (by omega) (by omega) (by omega)) (hY 10 (by omega) (by omega) (by omega) (by omega)) (hf 29 (by omega) (by omega) (by omega)) (hY 12 (by omega) (by omega) (by omega) (by omega)) hI.pl
  · exact rFi_fr (h1 _ (by omega)) (hf 32 (by omega) (by omega) (by omega)) (hf 30 (by omega) (by omega) (by omega)) (hf 31 (by omega) (by omega) (by omega)) hI.fi
  · exact rNt_fr (h1 _ (by omega)) (h1 _ (by omega)) (hf 37 (by omega) (by omega) (by omega)) (hY 15 (by omega) (by omega) (by omega) (by omega)) hI.nt
  · exact rBk_fr (fun j _ => by rw [h1 138 (by omega)]) (hf 41 (by omega) (by omega) (by omega)) (hY 16 (by omega) (by omega) (by omega) (by omega)) hI.bk
  · obtain ⟨a, b, c⟩ := hI.rf
    refine ⟨fun k hk => ?_, fun i hi => ?_, fun k hk => ?_⟩
    · rw [h3 154 (by omega), h3 155 (by omega), h3 156 (by omega)]; exact a k hk
    · rw [h3 131 (by omega), h3 135 (by omega), h3 178 (by omega), h3 201 (by omega)]; exact b i hi
    · rw [hl]; exact c k hk
theorem rPast_U {X Y : MM} {P N : Nat} (h : rPast X Y P N) : ∃ U, U ≤ 8 ∧ Y.1 0 23 = nI U := by
  obtain ⟨U, π, a1, a2, a3, -⟩ := h
  exact ⟨U, a1, a3⟩
theorem rPast_sS {X Y : MM} {S : Nat → Int32} {P N : Nat} (h : rPast X Y P N) : rPast X (sS Y S) P N := rPast_fr (fun _ _ _ => rfl) rfl (sS_n (by omega)) (by rw [sS_n (by omega)]) h
/-- the reference's keep at the call's beginning -/
theorem keep0 {X Y : MM} {P N : Nat} (hI : Inv X Y P N) : ∃ Y1, fX13_keep (mx_si Y 0 0 (0 : Int32)) = some Y1 ∧ Y1.1 2 = Y.1 2 ∧ (∀ U, (mx_si Y 0 0 (0 : Int32)).1 0 23 = nI U → U ≤ 8 → mKept (mx_si Y 0 0 (0 : Int32)) Y1 U (Y.1 2)) ∧ (∀ a, a ≠ 0 → a ≠ 7 → Y1.1 a = Y.1 a) ∧ (∀ j, j ≠ 0 → j ≠ 23 → Y1.1 0 j = Y.1 0 j) ∧ Y1.2 = Y.2 := by
  obtain ⟨U, hU, e⟩ := rPast_U hI.pa
  have e' : (mx_si Y 0 0 (0 : Int32)).1 0 23 = nI U := by rw [si_nj (by omega)]; exact e
  obtain ⟨Y1, k1, k2⟩ := m_keep hU e'
  have k2' := k2
  obtain ⟨a, b, c, -⟩ := k2
  refine ⟨Y1, k1, by rw [a 2 (by omega) (by omega), th2'], fun V hV hV8 => ?_, fun a' h0 h7 => by rw [a a' h7 h0, si_row h0], fun j h0 h23 => by rw [b j h23, si_nj h0], by rw [c]; rfl⟩
  have : V = U := by
    rw [e'] at hV
    exact ((nI_eq (by omega) (by omega)).mp hV).symm
  subst this
  rw [th2'] at k2'
  exact k2'
theorem act_done {X Y X1 X2 : MM} {S' : Nat → Int32} {P N : Nat} (hI : Inv X Y P N) (hX1 : xFr 38 X X1) (hB : rSt 38 X1 (Y.1 2) P N) (h2 : xFr 29 X1 X2) (hR : rSt 29 X2 S' P N) (hW : wSt S' P N) (hL : sameL (Y.1 2) S') (hC : sameC (Y.1 2) S') : ∃ X3 Y1, fX5_push 38 X2 = some X3 ∧ fX13_keep (mx_si Y 0 0 (0 : Int32)) = some Y1 ∧ Y1.1 2 = Y.1 2 ∧ Inv X3 (sS Y1 S') P N ∧ ∀ x, Inv X3 (mS Y1 x S') P N := by
  obtain ⟨Y1, k1, k2, k3, k4, k5, k6⟩ := keep0 hI
  have hp : rPast X2 (mx_si Y 0 0 (0 : Int32)) P N := rPast_fr (fun k a b => (h2.1 k (by omega)).trans (hX1.1 k (by omega))) (by rw [h2.2, hX1.2]) (si_row (by omega)) (si_nj (by omega)) hI.pa
  have hB2 : rSt 38 X2 (Y.1 2) P N := rSt_fr (fun k a b => h2.1 k (by omega)) hB
  obtain ⟨X3, p1, p2, p3, p4, p5⟩ := x_push (o1 := 38) (by omega) hI.p7 hI.n7 hB2 hI.st hp k3
  have gen : ∀ Y', (∀ a, a ≠ 0 → a ≠ 2 → Y'.1 a = Y1.1 a) → (∀ j, j ≠ 38 → Y'.1 0 j = Y1.1 0 j) → Y'.2 = Y1.2 → Y'.1 2 = S' → Inv X3 Y' P N := by
    intro Y' g1 g2 g3 g4
    refine hI.act (fun k hk => ?_) ?_ (fun k hk => ?_) (fun a a0 a2 a7 a8 => ?_) (fun j j0 j23 j38 => ?_) ?_ ?_ ?_ ?_ ?_ ?_
    · rw [p2 k (by omega), h2.1 k (by omega), hX1.1 k (by omega)]
    · rw [p3, h2.2, hX1.2]
    · rw [p4 k hk, h2.2, hX1.2]
    · rw [g1 a a0 a2, k4 a a0 a7]
    · rw [g2 j j38, k5 j j0 j23]
    · rw [g3, k6]
    · rw [g4]; exact hL
    · rw [g4]; exact hC
    · rw [g4]; exact hW
    · rw [g4]; exact rSt_fr (fun k a b => p2 k (by omega)) hR
    · exact rPast_fr (fun _ _ _ => rfl) rfl (g1 7 (by omega) (by omega)) (g2 23 (by omega)) p5
  refine ⟨X3, Y1, p1, k1, k2, gen _ (fun a a0 a2 => sS_n a2) (fun j _ => by rw [sS_n (by omega)]) sS_s sS_2, fun x => gen _ (fun a a0 a2 => ?_) (fun j hj => ?_) ?_ mS_2⟩
  · rw [mS, si_row a0, sS_n a2]
  · rw [mS, si_nj hj, sS_n (by omega)]
  · rfl
theorem act_not {X Y X1 : MM} {P N : Nat} (hI : Inv X Y P N) (hX1 : xFr 38 X X1) : Inv X1 (mx_si Y 0 0 (0 : Int32)) P N := Inv.kp (hX1.kp (by omega)) (yKp.rf.th (by omega)) (si_row (by omega)) hI
theorem sWhyGo_le {S : Nat → Int32} {q : Nat} {x y : Int32} : (sWhyGo S q x y ≤ 0) = (sWhyGo S q x y = 0) := by
  unfold sWhyGo; split
  · decide
  · split <;> decide
theorem sWhyHand_le {S : Nat → Int32} {q r t : Nat} : (sWhyHand S q r t ≤ 0) = (sWhyHand S q r t = 0) := by
  unfold sWhyHand; split
  · decide
  · split
    · decide
    · split <;> decide
theorem sWhyWear_le {S : Nat → Int32} {N q r : Nat} : (sWhyWear S N q r ≤ 0) = (sWhyWear S N q r = 0) := by
  unfold sWhyWear; split
  · decide
  · split
    · split <;> decide
    · decide
theorem sWhyFind_le {S : Nat → Int32} {q r : Nat} : (sWhyFind S q r ≤ 0) = (sWhyFind S q r = 0) := by
  unfold sWhyFind; split
  · split <;> decide
  · decide
/-- the two ends of an act -/
theorem act_end {X Y X1 X2 : MM} {S' : Nat → Int32} {P N : Nat} {why : Int32} {g : MM → Option (Int32 × MM)} (hI : Inv X Y P N) (hX1 : xFr 38 X X1) (hB : rSt 38 X1 (Y.1 2) P N) (h2 : xFr 29 X1 X2) (hn : why ≠ 0 → X2 = X1) (hd : why = 0 → rSt 29 X2 S' P N ∧ wSt S' P N ∧ sameL (Y.1 2) S' ∧ sameC (Y.1 2) S') (hle : why ≤ 0 ↔ why = 0) (hg : why = 0 → ∀ Y1, Y1.1 2 = Y.1 2 → g Y1 = some (0, sS Y1 S')) :
    RW ((fX12_keptIfDone why X2).bind fun q => some (q.1, q.2)) (if why ≤ 0 then (fX13_keep (mx_si Y 0 0 (0 : Int32))).bind g else some (why, mx_si Y 0 0 (0 : Int32))) := by
  rw [fX12_keptIfDone]
  by_cases h0 : why = 0
  · have h0' : why ≤ 0 := hle.mpr h0
    obtain ⟨d1, d2, d3, d4⟩ := hd h0
    obtain ⟨X3, Y1, e1, e2, e3, e4, -⟩ := act_done hI hX1 hB h2 d1 d2 d3 d4
    rw [if_pos h0, if_pos h0', e1, e2]
    simp only [pb_bs]
    rw [hg h0 Y1 e3, h0]
    exact ⟨_, _, _, rfl, rfl, P, N, e4⟩
  · have h0' : ¬ why ≤ 0 := fun e => h0 (hle.mp e)
    rw [if_neg h0, if_neg h0', hn h0]
    exact ⟨_, _, _, rfl, rfl, P, N, act_not hI hX1⟩
theorem up_go {S : Nat → Int32} {q : Nat} {x y : Int32} (hq : q < 7) : sameL S (sGo S q x y) ∧ sameC S (sGo S q x y) := ⟨(((sameL.rf.up (by omega)).up (by omega)).up (by omega)).up (by omega), (((sameC.rf.up (by omega)).up (by omega)).up (by omega)).up (by omega)⟩
theorem q_go {X Y : MM} {P N : Nat} {p x y : Int32} (h : Inv X Y P N) : RW (fX12_go p x y X) (fX13_go p x y Y) := by
  have hP := h.p7
  have e20 : ∀ i, fX13_isIn i (0 : Int32) (20 : Int32) (mx_si Y 0 0 (0 : Int32)) = some (mx_in i 21) := fun i => m_isInP (n := 21) (by omega)
  have epl : fX12_isPlace x y X = some (mx_in x 21 && mx_in y 21) := by
    rw [fX12_isPlace, in_lt (by omega), in_lt (by omega)]
    have e : ∀ i : Int32, ((20 : Int32) < i) = (nI 21 ≤ i) := fun i => pred_lt (n := 21) (by omega)
    simp only [e]
    by_cases a : x < 0 <;> by_cases b : nI 21 ≤ x <;> by_cases c : y < 0 <;> by_cases d : nI 21 ≤ y <;> simp [a, b, c, d]
  rw [fX12_go, fX13_go, x_isPerson h.x0 hP, m_isPerson (th2.trans h.y0) hP, e20, e20, epl]
  simp only [pb_bs]
  rcases in_cases p P (by omega) with hp | ⟨p, hp, rfl⟩
  · rw [hp, if_pos b_f, if_pos b_f]; exact ⟨_, _, _, rfl, rfl, P, N, h.th⟩
  rw [pb_in hp (by omega), if_neg b_t, if_neg b_t]
  rcases in_cases x 21 (by omega) with hx | ⟨x, hx, rfl⟩
  · rw [hx, Bool.false_and, if_pos b_f, if_pos b_f]; exact ⟨_, _, _, rfl, rfl, P, N, h.th⟩
  rw [pb_in hx (by omega), Bool.true_and, if_neg b_t]
  rcases in_cases y 21 (by omega) with hy | ⟨y, hy, rfl⟩
  · rw [hy, if_pos b_f, if_pos b_f]; exact ⟨_, _, _, rfl, rfl, P, N, h.th⟩
  rw [pb_in hy (by omega), if_neg b_t, if_neg b_t, m_whyGo (by omega), th2']
  obtain ⟨X1, a1, a2, a3⟩ := x_copySt (o := 38) (o1 := 29) (X := X) (Or.inl (by omega))
  have hR1 : rSt 29 X1 (Y.1 2) P N := rSt_fr (fun k a b => a2.1 k (by omega)) h.rs
  obtain ⟨X2, b1, b2, -, b3, b4⟩ := x_walkTo (x := nI x) (y := nI y) hR1 hp hP h.n7
  rw [a1]
  simp only [pb_bs]
  rw [b1]
  simp only [pb_bs]
  refine act_end h a2 (a3 _ P N hP h.n7 h.rs) b2 b3 (fun h0 => ⟨b4 h0, wSt_go hP h.n7 h.st hp (by omega) (by omega) h0, (up_go (by omega)).1, (up_go (by omega)).2⟩) (Iff.of_eq sWhyGo_le) (fun h0 Y1 e => ?_)
  rw [m_goes (by omega), e]
  rfl
theorem q_hand {X Y : MM} {P N : Nat} {p r q : Int32} (h : Inv X Y P N) : RW (fX12_hand p r q X) (fX13_hand p r q Y) := by
  have hP := h.p7
  have hN := h.n7
  rw [fX12_hand, fX13_hand, x_isPerson h.x0 hP, x_isPerson h.x0 hP, x_isRing h.x1 hN, m_isPerson (th2.trans h.y0) hP, m_isPerson (th2.trans h.y0) hP, m_isRing (th2.trans h.y1) hN]
  simp only [pb_bs]
  rcases in_cases p P (by omega) with hp | ⟨p, hp, rfl⟩
  · rw [hp, if_pos b_f, if_pos b_f]; exact ⟨_, _, _, rfl, rfl, P, N, h.th⟩
  rw [pb_in hp (by omega), if_neg b_t, if_neg b_t]
  rcases in_cases r N (by omega) with hr | ⟨r, hr, rfl⟩
  · rw [hr, if_pos b_f, if_pos b_f]; exact ⟨_, _, _, rfl, rfl, P, N, h.th⟩
  rw [pb_in hr (by omega), if_neg b_t, if_neg b_t]
  rcases in_cases q P (by omega) with hq | ⟨q, hq, rfl⟩
  · rw [hq, if_pos b_f, if_pos b_f]; exact ⟨_, _, _, rfl, rfl, P, N, h.th⟩
  rw [pb_in hq (by omega), if_neg b_t, if_neg b_t, m_whyHand (P := P) (N := N) (by rw [th2']; exact h.st) hP hp (by omega) hq, th2']
  obtain ⟨X1, a1, a2, a3⟩ := x_copySt (o := 38) (o1 := 29) (X := X) (Or.inl (by omega))
  have hR1 : rSt 29 X1 (Y.1 2) P N := rSt_fr (fun k a b => a2.1 k (by omega)) h.rs
  obtain ⟨X2, b1, b2, -, b3, b4⟩ := x_passOn (by rw [a2.1 9 (by omega)]; exact h.x0) hR1 h.st hp hr hq hP hN
  rw [a1]
  simp only [pb_bs]
  rw [b1]
  simp only [pb_bs]
  refine act_end h a2 (a3 _ P N hP h.n7 h.rs) b2 b3 (fun h0 => ⟨b4 h0, wSt_hand hP hN h.st hq hr, (sameL.rf.up (by omega)).up (by omega), (sameC.rf.up (by omega)).up (by omega)⟩) (Iff.of_eq sWhyHand_le) (fun h0 Y1 e => ?_)
  rw [m_hands (by omega), e]
  rfl
theorem q_wear {X Y : MM} {P N : Nat} {p r : Int32} (h : Inv X Y P N) : RW (fX12_wear p r X) (fX13_wear p r Y) := by
  have hP := h.p7
  have hN := h.n7
  rw [fX12_wear, fX13_wear, x_isPerson h.x0 hP, x_isRing h.x1 hN, m_isPerson (th2.trans h.y0) hP, m_isRing (th2.trans h.y1) hN]
  simp only [pb_bs]
  rcases in_cases p P (by omega) with hp | ⟨p, hp, rfl⟩
  · rw [hp, if_pos b_f, if_pos b_f]; exact ⟨_, _, _, rfl, rfl, P, N, h.th⟩
  rw [pb_in hp (by omega), if_neg b_t, if_neg b_t]
  rcases in_cases r N (by omega) with hr | ⟨r, hr, rfl⟩
  · rw [hr, if_pos b_f, if_pos b_f]; exact ⟨_, _, _, rfl, rfl, P, N, h.th⟩
  rw [pb_in hr (by omega), if_neg b_t, if_neg b_t, m_whyWear hN (th2.trans h.y1) (by omega) (by omega), th2']
  obtain ⟨X1, a1, a2, a3⟩ := x_copySt (o := 38) (o1 := 29) (X := X) (Or.inl (by omega))
  have hR1 : rSt 29 X1 (Y.1 2) P N := rSt_fr (fun k a b => a2.1 k (by omega)) h.rs
  obtain ⟨X2, b1, b2, -, b3, b4⟩ := x_putOn h.ld (a2.ld (by omega) h.rl) hR1 hp hr
  rw [a1]
  simp only [pb_bs]
  rw [b1]
  simp only [pb_bs]
  refine act_end h a2 (a3 _ P N hP h.n7 h.rs) b2 b3 (fun h0 => ⟨b4 h0, wSt_how hP hN h.st hr (Or.inr (Or.inl rfl)), sameL.rf.up (by omega), sameC.rf.up (by omega)⟩) (Iff.of_eq sWhyWear_le) (fun h0 Y1 e => ?_)
  rw [c85, nI_add, pb_gd (by omega) (by omega), nI_clamp (by omega), sS_0, e]
theorem q_find {X Y : MM} {P N : Nat} {p r : Int32} (h : Inv X Y P N) : RW (fX12_find p r X) (fX13_find p r Y) := by
  have hP := h.p7
  have hN := h.n7
  rw [fX12_find, fX13_find, x_isPerson h.x0 hP, x_isRing h.x1 hN, m_isPerson (th2.trans h.y0) hP, m_isRing (th2.trans h.y1) hN]
  simp only [pb_bs]
  rcases in_cases p P (by omega) with hp | ⟨p, hp, rfl⟩
  · rw [hp, if_pos b_f, if_pos b_f]; exact ⟨_, _, _, rfl, rfl, P, N, h.th⟩
  rw [pb_in hp (by omega), if_neg b_t, if_neg b_t]
  rcases in_cases r N (by omega) with hr | ⟨r, hr, rfl⟩
  · rw [hr, if_pos b_f, if_pos b_f]; exact ⟨_, _, _, rfl, rfl, P, N, h.th⟩
  rw [pb_in hr (by omega), if_neg b_t, if_neg b_t, m_whyFind (P := P) (N := N) (by rw [th2']; exact h.st) hP hN hp hr, th2']
  obtain ⟨X1, a1, a2, a3⟩ := x_copySt (o := 38) (o1 := 29) (X := X) (Or.inl (by omega))
  have hR1 : rSt 29 X1 (Y.1 2) P N := rSt_fr (fun k a b => a2.1 k (by omega)) h.rs
  obtain ⟨X2, b1, b2, -, b3, b4⟩ := x_pickUp hR1 hp hr hP hN
  rw [a1]
  simp only [pb_bs]
  rw [b1]
  simp only [pb_bs]
  refine act_end h a2 (a3 _ P N hP h.n7 h.rs) b2 b3 (fun h0 => ⟨b4 h0, wSt_find hP hN h.st hp hr, (((sameL.rf.up (by omega)).up (by omega)).up (by omega)).up (by omega), (((sameC.rf.up (by omega)).up (by omega)).up (by omega)).up (by omega)⟩) (Iff.of_eq sWhyFind_le) (fun h0 Y1 e => ?_)
  rw [m_finds (by omega), e]
  rfl
theorem q_doff {X Y : MM} {P N : Nat} {p : Int32} (h : Inv X Y P N) : RW (fX12_doff p X) (fX13_doff p Y) := by
  have hP := h.p7
  have hN := h.n7
  rw [fX12_doff, fX13_doff, x_isPerson h.x0 hP, m_isPerson (th2.trans h.y0) hP]
  simp only [pb_bs]
  rcases in_cases p P (by omega) with hp | ⟨p, hp, rfl⟩
  · rw [hp, if_pos b_f, if_pos b_f]; exact ⟨_, _, _, rfl, rfl, P, N, h.th⟩
  rw [pb_in hp (by omega), if_neg b_t, if_neg b_t, m_wornBy hN (th2.trans h.y1), th2']
  obtain ⟨X1, a1, a2, a3⟩ := x_copySt (o := 38) (o1 := 29) (X := X) (Or.inl (by omega))
  have hR1 : rSt 29 X1 (Y.1 2) P N := rSt_fr (fun k a b => a2.1 k (by omega)) h.rs
  obtain ⟨X2, b1, b2, -, b3, b4⟩ := x_takeOff (q := p) (by rw [a2.1 9 (by omega)]; exact h.x1) hR1 hP hN
  rw [a1]
  simp only [pb_bs]
  rw [b1]
  simp only [pb_bs]
  have hneg := sWorn_neg (S := Y.1 2) (N := N) (q := nI p) hN
  by_cases hw : sWorn (Y.1 2) N (nI p) = -1
  · rw [if_pos hw, hw, if_neg (by decide), b3 hw]
    exact ⟨_, _, _, rfl, rfl, P, N, act_not h a2⟩
  · have h0 : 0 ≤ sWorn (Y.1 2) N (nI p) := Int32.not_lt.mp (by rw [hneg]; exact hw)
    obtain ⟨e1, e2, e3, e4⟩ := sWorn_is hN hw
    obtain ⟨X3, Y1, d1, d2, d3, d4, -⟩ := act_done h a2 (a3 _ P N hP h.n7 h.rs) b2 (b4 hw) (sDoff_W hP hN h.st hw) (sameL.rf.up (by omega)) (sameC.rf.up (by omega))
    rw [if_neg hw, if_pos h0, fX12_keptIfDone, if_pos rfl, d1, d2]
    simp only [pb_bs]
    rw [m_wornBy hN (by rw [d3]; exact h.y1), d3, e1]
    simp only [pb_bs]
    rw [c85, nI_add, pb_gd (by omega) (by omega), nI_clamp (by omega), sS_0, d3]
    exact ⟨_, _, _, rfl, rfl, P, N, d4⟩
theorem isIn1 {i : Int32} {n : Nat} {M : MM} (hn : n ≤ 1000) : fX13_isIn i (1 : Int32) (nI n) M = some (if i < 1 then false else decide (i ≤ nI n)) := by
  rw [fX13_isIn]
  by_cases h1 : i < 1
  · rw [if_pos h1, if_pos h1]
  · rw [if_neg h1, if_neg h1]
    by_cases h2 : nI n < i
    · have : ¬ i ≤ nI n := Int32.not_le.mpr h2
      rw [if_pos h2]; simp [this]
    · have : i ≤ nI n := Int32.not_lt.mp h2
      rw [if_neg h2]; simp [this]
theorem of1 {i : Int32} {n : Nat} (hn : n ≤ 1000) (h1 : ¬ i < 1) (h2 : i ≤ nI n) : ∃ k, 1 ≤ k ∧ k ≤ n ∧ i = nI k := by
  have h0 : ¬ i < 0 := fun h => h1 (Int32.lt_trans h (by decide))
  obtain ⟨j, hj, rfl⟩ := nI_of h0
  rw [pb_le hj (by omega)] at h2
  refine ⟨j, ?_, h2, rfl⟩
  have : ¬ nI j < nI 1 := h1
  rw [pb_lt hj (by omega)] at this
  omega
theorem sGoesOn_0 {P N K : Nat} {S : Nat → Int32} (hK : 1 ≤ K) : (400 ≤ S 54 → sGoesOn P N K S = (0, S)) ∧ (¬ 400 ≤ S 54 → 1 ≤ (sGoesOn P N K S).1) := by
  obtain ⟨k, rfl⟩ : ∃ k, K = k + 1 := ⟨K - 1, by omega⟩
  constructor
  · intro h; rw [sGoesOn, if_pos h]
  · intro h; rw [sGoesOn, if_neg h]; exact Nat.le_add_left _ _
theorem sGoesOn_n {P N : Nat} : ∀ (K : Nat) (S : Nat → Int32), (sGoesOn P N K S).1 ≤ K := by
  intro K
  induction K with
  | zero => intro S; exact Nat.le_refl _
  | succ K ih =>
    intro S
    rw [sGoesOn]
    split
    · exact Nat.zero_le _
    · have := ih (sDay S P N)
      simp only
      omega
theorem q_days {X Y : MM} {P N : Nat} {i : Int32} (h : Inv X Y P N) : RW (fX12_days i X) (fX13_days i Y) := by
  have hP := h.p7
  have hN := h.n7
  have e60 : fX13_isIn i (1 : Int32) (60 : Int32) (mx_si Y 0 0 (0 : Int32)) = _ := isIn1 (n := 60) (by omega)
  rw [fX12_days, fX13_days, e60]
  simp only [pb_bs]
  by_cases h1 : i < 1
  · rw [if_pos h1, if_pos h1, if_pos b_f]; exact ⟨_, _, _, rfl, rfl, P, N, h.th⟩
  rw [if_neg h1, if_neg h1]
  by_cases h2 : i ≤ nI 60
  · have h2' : i ≤ 60 := h2
    obtain ⟨K, k1, k2, rfl⟩ := of1 (by omega) h1 h2
    rw [if_pos h2', decide_eq_true h2, if_neg b_t, th2]
    obtain ⟨X1, a1, a2, a3⟩ := x_copySt (o := 38) (o1 := 29) (X := X) (Or.inl (by omega))
    have hR1 : rSt 29 X1 (Y.1 2) P N := rSt_fr (fun k a b => a2.1 k (by omega)) h.rs
    obtain ⟨X2, b1, b2, -, b4⟩ := x_passDays k2 (by omega) h.ld (a2.ld (by omega) h.rl) hR1
    rw [a1]
    simp only [pb_bs]
    rw [b1]
    simp only [pb_bs]
    obtain ⟨⟨d, d4, ed⟩, -⟩ := h.st
    have hz := sGoesOn_0 (P := P) (N := N) (K := K) (S := Y.1 2) k1
    rw [fX12_keptIfSome]
    by_cases hd : d = 400
    · have e4 : Y.1 2 54 = 400 := by rw [ed, hd]; rfl
      have hz1 := hz.1 (by rw [e4]; decide)
      rw [hz1] at b4 ⊢
      rw [e4, if_pos rfl]
      rw [if_pos (show nI 0 ≤ 0 by decide)]
      refine ⟨_, _, _, rfl, rfl, P, N, h.act (fun k hk => ?_) ?_ (fun k _ => ?_) (fun a a0 _ _ _ => si_row a0) (fun j j0 _ _ => si_nj j0) rfl (by rw [th2']; exact sameL.rf) (by rw [th2']; exact sameC.rf) (by rw [th2']; exact h.st) (by rw [th2']; exact b4) (rPast_fr (fun k k1 k2 => (b2.1 k (by omega)).trans (a2.1 k (by omega))) (by rw [b2.2, a2.2]) (si_row (by omega)) (si_nj (by omega)) h.pa)⟩
      · show X2.1 k = X.1 k
        rw [b2.1 k (by omega), a2.1 k (by omega)]
      · show X2.2.1 = X.2.1
        rw [b2.2, a2.2]
      · show X2.2.2 k = X.2.2 k
        rw [b2.2, a2.2]
    · have hn4 : ¬ (400 : Int32) ≤ Y.1 2 54 := by
        rw [ed, c400, pb_le (by omega) (by omega)]; omega
      have hz1 := hz.2 hn4
      have hzn := sGoesOn_n (P := P) (N := N) K (Y.1 2)
      have ne : ¬ Y.1 2 54 = 400 := by
        rw [ed, c400, nI_eq (by omega) (by omega)]; exact hd
      rw [if_neg ne, if_neg (nI_nle hz1 (by omega))]
      obtain ⟨X3, Y1, d1, d2, d3, d5, -⟩ := act_done h a2 (a3 _ P N hP h.n7 h.rs) b2 b4 (sGoesOn_W K _ h.ld h.st) (sGoesOn_L K _ _ sameL.rf) (sGoesOn_C hP hN K _ _ sameC.rf)
      rw [d1, d2]
      simp only [pb_bs]
      rw [m_goesOn k2 (by rw [d3]; exact h.ld), d3]
      exact ⟨_, _, _, rfl, rfl, P, N, d5⟩
  · have h2' : ¬ i ≤ 60 := h2
    rw [if_neg h2', decide_eq_false h2, if_pos b_f]; exact ⟨_, _, _, rfl, rfl, P, N, h.th⟩
theorem sDraws_0 {P N K : Nat} {z : Int32 × (Nat → Int32)} (hK : 1 ≤ K) : (400 ≤ z.2 54 → (sDraws P N K z).1 = 0 ∧ (sDraws P N K z).2.2 = z.2) ∧ (¬ 400 ≤ z.2 54 → 1 ≤ (sDraws P N K z).1) := by
  obtain ⟨k, rfl⟩ : ∃ k, K = k + 1 := ⟨K - 1, by omega⟩
  constructor
  · intro h; rw [sDraws, if_pos h]; exact ⟨rfl, rfl⟩
  · intro h; rw [sDraws, if_neg h]; exact Nat.le_add_left _ _
theorem sDraws_n {P N : Nat} : ∀ (K : Nat) (z : Int32 × (Nat → Int32)), (sDraws P N K z).1 ≤ K := by
  intro K
  induction K with
  | zero => intro S; exact Nat.le_refl _
  | succ K ih =>
    intro S
    rw [sDraws]
    split
    · exact Nat.zero_le _
    · have := ih (sDrawDay P N S)
      simp only
      omega
theorem q_drawn {X Y : MM} {P N : Nat} {i x : Int32} (h : Inv X Y P N) : RW (fX12_drawn i x X) (fX13_drawn i x Y) := by
  have hP := h.p7
  have hN := h.n7
  have e60 : fX13_isIn i (1 : Int32) (60 : Int32) (mx_si Y 0 0 (0 : Int32)) = _ := isIn1 (n := 60) (by omega)
  rw [fX12_drawn, fX13_drawn, e60]
  simp only [pb_bs]
  by_cases h1 : i < 1
  · rw [if_pos h1, if_pos h1, if_pos b_f]; exact ⟨_, _, _, rfl, rfl, P, N, h.th⟩
  rw [if_neg h1, if_neg h1]
  by_cases h2 : i ≤ nI 60
  · have h2' : i ≤ 60 := h2
    obtain ⟨K, k1, k2, rfl⟩ := of1 (by omega) h1 h2
    rw [if_pos h2', decide_eq_true h2, if_neg b_t, th2]
    obtain ⟨X1, a1, a2, a3⟩ := x_copySt (o := 38) (o1 := 29) (X := X) (Or.inl (by omega))
    have hR1 : rSt 29 X1 (Y.1 2) P N := rSt_fr (fun k a b => a2.1 k (by omega)) h.rs
    obtain ⟨X2, b1, b2, b4⟩ := x_drawDays (x := x) k2 (by omega) h.ld h.st (a2.ld (by omega) h.rl) hR1
    rw [a1]
    simp only [pb_bs]
    rw [b1]
    simp only [pb_bs]
    have hz := sDraws_0 (P := P) (N := N) (K := K) (z := (x, Y.1 2)) k1
    rw [fX12_keptIfSome]
    by_cases hn4 : (400 : Int32) ≤ Y.1 2 54
    · obtain ⟨z1, z2⟩ := hz.1 hn4
      rw [z2] at b4
      rw [if_pos hn4, z1, fX13_drawn_34, m_draws k2 (by rw [th2']; exact h.ld) (by rw [th2']; exact h.st), th2', z1, z2, if_pos (show nI 0 ≤ 0 by decide)]
      simp only [pb_bs]
      refine ⟨_, _, _, rfl, rfl, P, N, h.act (fun k hk => ?_) ?_ (fun k _ => ?_) (fun a a0 a2 _ _ => ?_) (fun j j0 _ j38 => ?_) rfl ?_ ?_ ?_ ?_ ?_⟩
      · show X2.1 k = X.1 k
        rw [b2.1 k (by omega), a2.1 k (by omega)]
      · show X2.2.1 = X.2.1
        rw [b2.2, a2.2]
      · show X2.2.2 k = X.2.2 k
        rw [b2.2, a2.2]
      · rw [mS, si_row a0, sS_n a2, si_row a0]
      · rw [mS, si_nj j38, sS_n (by omega), si_nj j0]
      · rw [mS_2]; exact sameL.rf
      · rw [mS_2]; exact sameC.rf
      · rw [mS_2]; exact h.st
      · rw [mS_2]; exact b4
      · refine rPast_fr (fun k k1 k2 => (b2.1 k (by omega)).trans (a2.1 k (by omega))) (by rw [b2.2, a2.2]) ?_ ?_ h.pa
        · rw [mS, si_row (by omega), sS_n (by omega), si_row (by omega)]
        · rw [mS, si_nj (by omega), sS_n (by omega), si_nj (by omega)]
    · have hz1 := hz.2 hn4
      have hzn := sDraws_n (P := P) (N := N) K (x, Y.1 2)
      rw [if_neg hn4, if_neg (nI_nle hz1 (by omega))]
      obtain ⟨X3, Y1, d1, d2, d3, -, d5⟩ := act_done h a2 (a3 _ P N hP h.n7 h.rs) b2 b4 (sDraws_W K _ h.ld h.st) (sDraws_L K _ _ sameL.rf) (sDraws_C hP hN K _ _ sameC.rf)
      rw [d1, d2]
      simp only [pb_bs]
      rw [fX13_drawn_34, m_draws k2 (by rw [d3]; exact h.ld) (by rw [d3]; exact h.st), d3]
      exact ⟨_, _, _, rfl, rfl, P, N, d5 _⟩
  · have h2' : ¬ i ≤ 60 := h2
    rw [if_neg h2', decide_eq_false h2, if_pos b_f]; exact ⟨_, _, _, rfl, rfl, P, N, h.th⟩
theorem q_undo {X Y : MM} {P N : Nat} (h : Inv X Y P N) : RW (fX12_undo X) (fX13_undo Y) := by
  have hP := h.p7
  have hN := h.n7
  obtain ⟨U, π, hU, x1, y1, h1, h2, h3⟩ := h.pa
  rw [fX12_undo, fX13_undo, si_nj (by omega), x1, y1]
  by_cases h0 : U = 0
  · subst h0
    rw [if_pos nI_0, if_pos nI_0]; exact ⟨_, _, _, rfl, rfl, P, N, h.th⟩
  obtain ⟨u, rfl⟩ : ∃ u, U = u + 1 := ⟨U - 1, by omega⟩
  obtain ⟨p1, p2⟩ := h1 u (by omega)
  have hne := nI_ne0 (n := u + 1) (by omega) (by omega)
  rw [if_neg hne, if_neg hne, fX5_takeBack, x1, if_neg (nI_nle (by omega) (by omega)), nI_pred, si_eq, pb_gd (by omega) (by omega), nI_clamp (by omega)]
  have e22 : (mx_si X 56 1 (nI u)).2.2 57 u = 58 + 9 * π u := p2
  rw [e22, if_pos (isS_past _ p1)]
  obtain ⟨X1, a1, a2, a3⟩ := x_copySt (o := 29) (o1 := 58 + 9 * π u) (X := mx_si X 56 1 (nI u)) (Or.inr (by omega))
  rw [a1]
  simp only [pb_bs]
  have ey : (mx_si (mx_si Y 0 0 (0 : Int32)) 0 23 (nI u)).1 0 23 = nI u := si_eq
  have := m_undo26 (U := u) (by omega) ey
  rw [nI_0] at this
  rw [this]
  obtain ⟨r1, r2⟩ := h3 u (by omega)
  have ex : X1.1 56 1 = nI u := by rw [a2.1 56 (by omega), si_eq]
  rw [ex]
  have e2 : ∀ i, 54 ≤ i → i < 113 → (cpR (mx_si (mx_si Y 0 0 (0 : Int32)) 0 23 (nI u)) 2 (fun i => (mx_si (mx_si Y 0 0 (0 : Int32)) 0 23 (nI u)).1 7 (59 * u + i)) 54 59).1 2 i = uSl Y u i := by
    intro i i1 i2
    have := cpR_in (Y := mx_si (mx_si Y 0 0 (0 : Int32)) 0 23 (nI u)) (c := 2) (b := 54) (n := 59) (j := i - 54) (f := fun i => (mx_si (mx_si Y 0 0 (0 : Int32)) 0 23 (nI u)).1 7 (59 * u + i)) (by omega)
    rw [show 54 + (i - 54) = i by omega] at this
    rw [this, si_nk (by omega), si_nk (by omega)]
    rfl
  refine ⟨_, _, _, rfl, rfl, P, N, h.act (fun k hk => ?_) ?_ (fun k _ => ?_) (fun a a0 a2 _ _ => ?_) (fun j j0 j23 j38 => ?_) rfl ?_ ?_ ?_ ?_ ?_⟩
  · show X1.1 k = X.1 k
    rw [a2.1 k (by omega), si_row (by omega)]
  · show X1.2.1 = X.2.1
    rw [a2.2]; rfl
  · show X1.2.2 k = X.2.2 k
    rw [a2.2]; rfl
  · rw [cpR_n a2, si_row a0, si_row a0]
  · rw [cpR_n (by omega), si_nj j23, si_nj j0]
  · intro i hi
    rw [cpR_out (by omega), si_nk (by omega), si_nk (by omega)]
  · intro i hi
    rw [cpR_out (by omega), si_nk (by omega), si_nk (by omega)]
  · exact wSt_congr hP hN e2 r2
  · exact rSt_congr hP hN e2 (a3 _ P N hP hN (rSt_fr (fun k k1 k2 => si_row (by omega)) r1))
  · refine ⟨u, π, by omega, ex, ?_, fun i hi => ?_, h2, fun i hi => ?_⟩
    · rw [cpR_n (by omega), si_eq]
    · show π i < 8 ∧ X1.2.2 57 i = _
      rw [a2.2]
      exact h1 i hi
    · obtain ⟨q1, q2⟩ := h3 i (by omega)
      have eu : uSl (cpR (mx_si (mx_si Y 0 0 (0 : Int32)) 0 23 (nI u)) 2 (fun i => (mx_si (mx_si Y 0 0 (0 : Int32)) 0 23 (nI u)).1 7 (59 * u + i)) 54 59) i = uSl Y i := by
        unfold uSl
        rw [cpR_n (by omega), si_row (by omega), si_row (by omega)]
      rw [eu]
      refine ⟨rSt_fr (X := X) (fun k k1 k2 => ?_) q1, q2⟩
      show X1.1 k = X.1 k
      rw [a2.1 k (by omega), si_row (by omega)]
