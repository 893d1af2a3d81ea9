/-! island -/
theorem WY.r3 {Y Y' : MM} (h : ∀ a, a ≠ 3 → Y'.1 a = Y.1 a) (h2 : Y'.2 = Y.2) : WY Y Y' := ⟨⟨h 2 (by omega), h 7 (by omega), h 10 (by omega), h 12 (by omega), h 15 (by omega), h 19 (by omega), h 21 (by omega), fun j _ => by rw [h 0 (by omega)], fun i _ => by rw [h2], by rw [h2], by rw [h2]⟩, fun j _ => by rw [h 0 (by omega)], h 16 (by omega), h 1 (by omega)⟩
theorem x_clear {X : MM} : ∃ X', fX3_clear X = some X' ∧ WX X X' ∧ (∀ (T : TX) (s : Nat) (Y : MM), LX T s X Y → LX T s X' Y) ∧ X'.1 19 0 = 0 ∧ X'.1 19 1 = 0 ∧ X'.1 19 11 = 1 ∧ X'.1 19 12 = 5 ∧ X'.1 19 13 = 4 ∧ X'.1 19 14 = 0 ∧ X'.1 19 15 = 0 ∧ X'.1 19 16 = 0 ∧ X'.1 19 17 = 0 := by
  refine ⟨_, rfl, ((((((((WX.rf.si (by omega)).si (by omega)).si (by omega)).si (by omega)).si (by omega)).si (by omega)).si (by omega)).si (by omega)).si (by omega), fun T s Y h => ((((((((h.xs (by omega)).xs (by omega)).xs (by omega)).xs (by omega)).xs (by omega)).xs (by omega)).xs (by omega)).xs (by omega)).xs (by omega), ?_, ?_, ?_, ?_, ?_, ?_, ?_, ?_, ?_⟩
  · rw [si_nj (by omega), si_nj (by omega), si_nj (by omega), si_nj (by omega), si_nj (by omega), si_nj (by omega), si_nj (by omega), si_nj (by omega), si_eq]
  · rw [si_nj (by omega), si_nj (by omega), si_nj (by omega), si_nj (by omega), si_nj (by omega), si_nj (by omega), si_nj (by omega), si_eq]
  · rw [si_nj (by omega), si_nj (by omega), si_nj (by omega), si_nj (by omega), si_nj (by omega), si_nj (by omega), si_eq]
  · rw [si_nj (by omega), si_nj (by omega), si_nj (by omega), si_nj (by omega), si_nj (by omega), si_eq]
  · rw [si_nj (by omega), si_nj (by omega), si_nj (by omega), si_nj (by omega), si_eq]
  · rw [si_nj (by omega), si_nj (by omega), si_nj (by omega), si_eq]
  · rw [si_nj (by omega), si_nj (by omega), si_eq]
  · rw [si_nj (by omega), si_eq]
  · rw [si_eq]
theorem q_island {X Y : MM} {P N : Nat} (h : Inv X Y P N) : RW (fX12_island X) (fX13_island Y) := by
  obtain ⟨L, l1, l2, T, X1, o1, o2, o3, o4⟩ := tx_start (mo := 900) h (by omega)
  obtain ⟨Y1, t1, t2, t3, t4, t5, t6, t7, t8⟩ := m_taken (Y := Y) (mo := nI 900)
  have W2 : WY Y1 (mx_si (mx_si (mx_si Y1 0 15 (0 : Int32)) 0 19 (0 : Int32)) 0 20 (0 : Int32)) := ((WY.rf.si (by omega)).si (by omega)).si (by omega)
  obtain ⟨Y3, c1, c2, c3, c4, c5, c6, c7', c8'⟩ := m_clears (Y := mx_si (mx_si (mx_si Y1 0 15 (0 : Int32)) 0 19 (0 : Int32)) 0 20 (0 : Int32))
  have W3 : WY Y1 Y3 := W2.tr (WY.r3 c2 c3)
  obtain ⟨Y4, n1, n2, hL0⟩ := o4 Y3 (by rw [c2 0 (by omega), si_nj (by omega), si_nj (by omega), si_nj (by omega), t4, l2]) (by rw [c2 0 (by omega), si_nj (by omega), si_nj (by omega), si_nj (by omega), t6]) (by rw [c2 1 (by omega), si_row (by omega), si_row (by omega), si_row (by omega), t7]) (by rw [c2 0 (by omega), si_nj (by omega), si_nj (by omega), si_nj (by omega), t5]) (by rw [c2 0 (by omega), si_nj (by omega), si_nj (by omega), si_eq]) (by rw [c3]; show Y1.2.1 6 = _; rw [t8])
  have V4 : VY Y Y4 := t2.w (W3.tr n2.y.w)
  have z4 : Y4.1 0 2 = 0 := by rw [(W3.tr n2.y.w).2.1 2 (by omega)]; exact t3
  obtain ⟨X2, e1, e2, e3, f0, f1, f11, f12, f13, f14, f15, f16, f17⟩ := x_clear (X := X1)
  have hL := e3 T 0 Y4 hL0
  have y3r : Y4.1 3 = Y3.1 3 := n2.y.row (by omega)
  have hI : IR 0 0 0 (0 + 0 + popc 0) X2 Y4 := by
    refine ⟨⟨?_, by omega, ?_, by omega, ⟨1, by omega, ?_⟩, ⟨5, by omega, by omega, ?_⟩, ⟨4, by omega, by omega, ?_⟩, fun p hp => absurd hp (by omega), fun p hp => absurd hp (by omega)⟩, ⟨?_, ?_, ?_, ?_, ?_, fun p hp => absurd hp (by omega), fun p hp => absurd hp (by omega)⟩, ⟨by omega, by omega, fun p hp => absurd hp (by omega)⟩, ⟨by omega, by omega, fun p hp => absurd hp (by omega)⟩, by omega, ?_, f15, f16, f17, f14, ?_⟩
    · rw [y3r, c4]; rfl
    · rw [y3r, c5]; rfl
    · rw [y3r, c6]; rfl
    · rw [y3r, c7']; rfl
    · rw [y3r, c8']; rfl
    · rw [y3r, c4, f0]
    · rw [y3r, c5, f1]
    · rw [y3r, c6, f11]
    · rw [y3r, c7', f12]
    · rw [y3r, c8', f13]
    · rw [n2.1 0 20 (by omega), c2 0 (by omega), si_eq]; rfl
    · rw [n2.1 0 19 (by omega), c2 0 (by omega), si_nj (by omega), si_eq]; rfl
  rw [fX12_island, fX13_island, show (900 : Int32) = nI 900 from rfl, o1, t1]
  simp only [pb_bs]
  rw [fX3_readFrom, e1, c1]
  simp only [pb_bs]
  rw [n1]
  simp only [pb_bs]
  have W1 : WX X X2 := o2.tr e2
  rcases i_loop 17 mx_fu mx_fu 0 0 0 0 X2 Y4 (by omega) (by unfold mx_fu; omega) (by unfold mx_fu; omega) hL hI with ⟨s', X5, Y5, P', N', m', k', g1, g2, g3, g4, g5, g6⟩ | ⟨X5, Y5, g1, g2, g3, g4, g5⟩
  · rw [g1, g2]
    simp only [pb_bs]
    rw [fX10_clear]
    simp only [pb_bs]
    rw [if_neg b_t]
    have hX6 : ∃ X6, X6 = mx_si (mx_si X5 1 1 (0 : Int32)) 0 18 ((mx_si X5 1 1 (0 : Int32)).1 3 10) := ⟨_, rfl⟩
    obtain ⟨X6, eX6⟩ := hX6
    rw [← eX6]
    have x6r : ∀ a, a ≠ 0 → a ≠ 1 → X6.1 a = X5.1 a := fun a a0 a1 => by rw [eX6, si_row a0, si_row a1]
    have x6s : X6.2 = X5.2 := by rw [eX6]; rfl
    have x61 : X6.1 1 1 = nI 0 := by rw [eX6, si_nk (by omega), si_eq]; rfl
    have x618 : X6.1 0 18 = 0 := by rw [eX6, si_eq, si_nk (by omega)]; exact g5.ft.1
    clear eX6
    have WA := W1.tr g3
    obtain ⟨X7, d1, d2, d3, d4, d5, d6, d7⟩ := x_copyLd (o := 9) (o1 := 19) (X := X6) (by omega)
    obtain ⟨b1, b2, b3, b4, b5, b6, b7, b8, b9, b10, b11⟩ := g6
    have P7 : P' ≤ 7 := b1.2.1
    have N7 : N' ≤ 7 := b1.2.2.2.1
    have hR7 : rLo 9 X7 (Y5.1 3) P' N' := d6 _ _ _ P7 N7 (rLo_fr (fun k k1 k2 => x6r k (by omega) (by omega)) P7 N7 (fun _ _ => rfl) b2)
    have hM7 : rNm 9 X7 (fun j => Y5.2.1 5 (14 + j)) P' N' := d7 _ _ _ P7 N7 ⟨fun p hp => by
      show rN (X6.2.1 20 p) (Y5.2.1 5 (14 + p))
      rw [x6s]; exact b3.2.2 p hp, fun r hr => by
      show rN (X6.2.1 24 r) (Y5.2.1 5 (14 + (7 + r)))
      rw [x6s, show 14 + (7 + r) = 21 + r by omega]; exact b4.2.2 r hr⟩
    rw [d1]
    simp only [pb_bs]
    have q1 := m_is80 Y5 294 0 mx_fu (by omega) (by unfold mx_fu; omega)
    rw [cpR_0] at q1
    have q1' : fX13_island_80 mx_fu 0 Y5 = fX13_island_117 mx_fu 0 (cpR Y5 2 (isF Y5) 0 294) := q1
    have q2 := m_is117 (cpR Y5 2 (isF Y5) 0 294) 14 0 mx_fu (by omega) (by unfold mx_fu; omega)
    rw [cpL_0] at q2
    have q2' : fX13_island_117 mx_fu 0 (cpR Y5 2 (isF Y5) 0 294) = fX13_island_146 mx_fu 0 (cpL (cpR Y5 2 (isF Y5) 0 294) 5 (fun j => (cpR Y5 2 (isF Y5) 0 294).2.1 5 (14 + j)) 0 14) := q2
    have r7 : ∃ Y7, Y7 = cpL (cpR Y5 2 (isF Y5) 0 294) 5 (fun j => (cpR Y5 2 (isF Y5) 0 294).2.1 5 (14 + j)) 0 14 := ⟨_, rfl⟩
    obtain ⟨Y7, eY7⟩ := r7
    rw [q1', q2', ← eY7]
    obtain ⟨Y8, u1, u2, u3, u4, u5⟩ := m_is146 Y7
    have y7r : ∀ a, a ≠ 2 → Y7.1 a = Y5.1 a := fun a ha => by rw [eY7, cpL_1, cpR_n ha]
    have y7s : ∀ j, j < 294 → Y7.1 2 j = isF Y5 j := fun j hj => by
      have := cpR_in (Y := Y5) (c := 2) (b := 0) (n := 294) (f := isF Y5) hj
      rw [Nat.zero_add] at this
      rw [eY7, cpL_1, this]
    have y7l : ∀ a, a ≠ 5 → Y7.2.1 a = Y5.2.1 a := fun a ha => by rw [eY7, cpL_n ha]; rfl
    have y7n : ∀ j, j < 14 → Y7.2.1 5 j = Y5.2.1 5 (14 + j) := fun j hj => by
      have := cpL_in (Y := cpR Y5 2 (isF Y5) 0 294) (c := 5) (b := 0) (n := 14) (f := fun j => (cpR Y5 2 (isF Y5) 0 294).2.1 5 (14 + j)) hj
      rw [Nat.zero_add] at this
      rw [eY7, this]
      rfl
    clear eY7 q1 q2 q1' q2'
    rw [u1]
    have sH : ∀ j, j < 54 → Y8.1 2 j = Y5.1 3 j := fun j hj => by rw [u4 j (by omega), y7s j (by omega)]; unfold isF; rw [if_pos hj]
    have sZ : ∀ j, (54 ≤ j ∧ j < 57) ∨ (85 ≤ j ∧ j < 294) → Y8.1 2 j = 0 := fun j hj => by rw [u4 j (by omega), y7s j (by omega)]; unfold isF; rw [if_neg (by omega)]
    have sP : ∀ p, p < 7 → Y8.1 2 (57 + p) = Y5.1 3 (5 + p) ∧ Y8.1 2 (64 + p) = Y5.1 3 (12 + p) ∧ Y8.1 2 (71 + p) = Y5.1 3 3 ∧ Y8.1 2 (78 + p) = Y5.1 3 (40 + p) := fun p hp => by
      obtain ⟨v1, v2, v3, v4⟩ := u5 p hp
      have i : ∀ j, j < 54 → Y7.1 2 j = Y5.1 3 j := fun j hj => by rw [y7s j (by omega)]; unfold isF; rw [if_pos hj]
      rw [i _ (by omega)] at v1 v2 v3 v4
      exact ⟨v1, v2, v3, v4⟩
    obtain ⟨X8, w1, w2, w3⟩ := x_begin (X := X7) (S := Y8.1 2) (H := Y5.1 3) P7 N7 (hR7.1.trans b1.1) (hR7.2.1.trans b1.2.2.1) hR7 ⟨sZ 54 (by omega), sZ 55 (by omega), sZ 56 (by omega)⟩ (sH 3 (by omega)) (fun p hp => ⟨(sP p (by omega)).1, (sP p (by omega)).2.1, (sP p (by omega)).2.2.1⟩) (fun r hr => ⟨(sP r (by omega)).2.2.2, sZ (85 + r) (by omega), sZ (92 + r) (by omega)⟩)
    rw [w1]
    simp only [pb_bs]
    rw [fX8_clear]
    simp only [pb_bs]
    rw [fX5_clear]
    simp only [pb_bs]
    have xf : ∀ a, a ≠ 130 → a ≠ 56 → (mx_si (mx_si (mx_si X8 130 3 (0 : Int32)) 130 4 (0 : Int32)) 56 1 (0 : Int32)).1 a = X8.1 a := fun a a1 a2 => by rw [si_row a2, si_row a1, si_row a1]
    have xa : ∀ a, (a < 9 ∨ 18 < a) → (a < 29 ∨ 37 < a) → a ≠ 130 → a ≠ 56 → a ≠ 0 → a ≠ 1 → (mx_si (mx_si (mx_si X8 130 3 (0 : Int32)) 130 4 (0 : Int32)) 56 1 (0 : Int32)).1 a = X5.1 a := fun a a1 a2 a3 a4 a5 a6 => by rw [xf a a3 a4, w2.1 a (by omega), d2 a (by omega), x6r a a5 a6]
    have xs : (mx_si (mx_si (mx_si X8 130 3 (0 : Int32)) 130 4 (0 : Int32)) 56 1 (0 : Int32)).2.2 = X5.2.2 := by
      show X8.2.2 = _
      rw [w2.2, d4, x6s]
    refine ⟨Y7.1 0 19, mx_si (mx_si (mx_si X8 130 3 (0 : Int32)) 130 4 (0 : Int32)) 56 1 (0 : Int32), _, ?_, rfl, P', N', ?_⟩
    · rw [xf 9 (by omega) (by omega), w2.1 9 (by omega), d5, x6r 19 (by omega) (by omega), b10, y7r 0 (by omega), b11]
    · have yF : ∀ j, j ≠ 23 → (mx_si Y8 0 23 (0 : Int32)).1 0 j = Y5.1 0 j := fun j hj => by rw [si_nj hj, u2 0 (by omega), y7r 0 (by omega)]
      have yR : ∀ a, a ≠ 0 → a ≠ 2 → (mx_si Y8 0 23 (0 : Int32)).1 a = Y5.1 a := fun a a0 a2 => by rw [si_row a0, u2 a a2, y7r a a2]
      have y2 : (mx_si Y8 0 23 (0 : Int32)).1 2 = Y8.1 2 := si_row (by omega)
      have yL : ∀ a, a ≠ 5 → (mx_si Y8 0 23 (0 : Int32)).2.1 a = Y5.2.1 a := fun a ha => by
        show Y8.2.1 a = _
        rw [u3, y7l a ha]
      have V5 : VY Y Y5 := V4.w g4
      refine h.new2 ?_ (fun k hk => ?_) ?_ (fun j hj => ?_) ?_ (fun k hk => ?_) (fun k hk => ?_) (fun i hi => ?_) (fun a ha => ?_) (fun j hj => ?_) ?_ (fun k hk => ?_) ?_ ?_
      · rw [y2]
        have hW : wLd (Y8.1 2) P' N' := wLd_same (fun i hi => sH i hi) b1
        refine ⟨hW, ⟨⟨0, by omega, sZ 54 (by omega)⟩, fun p hp => ?_, fun r hr => ?_⟩, ?_, ?_, ⟨0, 0, by omega, ?_, ?_, ?_, by omega, by omega, Or.inl rfl, fun i hi => absurd hi (by omega)⟩, ?_⟩
        · obtain ⟨v1, v2, v3, v4⟩ := sP p (by omega)
          rw [v1, v2, v3]
          obtain ⟨z1, z2, z3⟩ := b1.2.2.2.2.2.2.2.1 p hp
          obtain ⟨w, -, z5, z6⟩ := b1.2.2.2.2.2.1
          exact ⟨z1, z2, w, z5, z6⟩
        · obtain ⟨v1, v2, v3, v4⟩ := sP r (by omega)
          rw [v4, sZ (85 + r) (by omega), sZ (99 + r) (by omega), sZ (106 + r) (by omega)]
          obtain ⟨z1, z2, z3, z4⟩ := b1.2.2.2.2.2.2.2.2 r hr
          exact ⟨z3, Or.inl rfl, ⟨0, by omega, rfl⟩, 0, by omega, rfl⟩
        · exact rLo_fr (fun k k1 k2 => by rw [xf k (by omega) (by omega), w2.1 k (by omega)]) P7 N7 sH hR7
        · exact rSt_fr (fun k k1 k2 => xf k (by omega) (by omega)) w3
        · rw [si_nk (by omega), si_nj (by omega), si_eq]; rfl
        · exact sZ 113 (by omega)
        · rw [si_nk (by omega), si_eq]; rfl
        · refine rNm_fr (X := X7) (R := fun j => Y5.2.1 5 (14 + j)) ?_ ?_ P7 N7 (fun i hi => ?_) hM7
          · show X8.2.1 10 = X7.2.1 10
            rw [w2.2]
          · show X8.2.1 14 = X7.2.1 14
            rw [w2.2]
          · show Y8.2.1 5 i = _
            rw [u3, y7n i hi]
      · rw [xa k (by omega) (by omega) (by omega) (by omega) (by omega) (by omega)]
        rcases (by omega : k = 144 ∨ k = 145 ∨ k = 149 ∨ 152 ≤ k) with q | q | q | q
        · exact WA.1.c1 k (by omega)
        · exact WA.1.c1 k (by omega)
        · subst q; exact WA.2.1
        · exact WA.1.c1 k (by omega)
      · rw [xa 143 (by omega) (by omega) (by omega) (by omega) (by omega) (by omega)]; exact WA.1.c2
      · rw [xa 138 (by omega) (by omega) (by omega) (by omega) (by omega) (by omega)]; exact WA.2.2.1 j hj
      · rw [si_eq]
      · show X8.2.1 k = _
        rw [w2.2, d3 k (by omega), x6s]
        exact WA.1.l k (by omega)
      · rw [xs]; exact WA.1.r k (by omega)
      · rw [xs]
        refine ⟨by rw [WA.1.r 131 (by omega)]; exact (h.rf.2.1 i hi).1, WA.1.w (fun i hi => (h.rf.2.1 i hi).2.1) i hi⟩
      · rw [yR a (by omega) (by omega)]
        rcases ha with q | q | q | q | q | q <;> subst q
        · exact V5.1.a10
        · exact V5.1.a12
        · exact V5.1.a15
        · exact V5.2.2
        · exact V5.1.a19
        · exact V5.1.a21
      · rw [yF j (by omega)]
        rcases (by omega : j = 26 ∨ j = 29 ∨ j = 37 ∨ j = 30 ∨ j = 31 ∨ j = 32 ∨ j = 41) with q | q | q | q | q | q | q
        · exact V5.1.f j (by omega)
        · exact V5.1.f j (by omega)
        · exact V5.1.f j (by omega)
        · exact V5.2.1 j (by omega)
        · exact V5.2.1 j (by omega)
        · exact V5.2.1 j (by omega)
        · exact V5.2.1 j (by omega)
      · rw [si_eq]
      · rw [yL k (by omega)]
        rcases hk with q | q <;> subst q
        · exact V5.1.l6
        · exact V5.1.l20
      · refine ⟨0, by omega, ?_, ?_, fun i hi => absurd hi (by omega)⟩
        · rw [xf 1 (by omega) (by omega), w2.1 1 (by omega), d2 1 (by omega)]; exact x61
        · rw [yF 2 (by omega), g4.2.1 2 (by omega)]; exact z4
      · rw [xf 0 (by omega) (by omega), w2.1 0 (by omega), d2 0 (by omega), x618, yF 15 (by omega)]; exact g5.ft.2.symm
  · rw [g1, g2]
    simp only [pb_bs]
    rw [fX10_clear]
    simp only [pb_bs]
    rw [if_pos b_f]
    refine ⟨_, _, _, rfl, ?_, P, N, tx_end h (W1.tr g3) (V4.w g4) (by rw [g4.2.1 2 (by omega)]; exact z4) g5.1⟩
    rw [si_nk (by omega), si_nk (by omega), g5.2]
