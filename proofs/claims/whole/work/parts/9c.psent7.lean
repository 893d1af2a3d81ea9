/-! a sentence, the whole call -/
theorem m_s145 {Y : MM} {n : Nat} (hn : n ≤ 50) (h43 : Y.1 0 43 = nI n) : ∃ Y', fX13_sentence_145 mx_fu 0 Y = some (Y.1 0 44, Y') ∧ (∀ a, a ≠ 2 → Y'.1 a = Y.1 a) ∧ Y'.2 = Y.2 ∧ (∀ j, j < 114 → Y'.1 2 j = Y.1 2 j) ∧ ∀ j, j < 3 * n → Y'.1 2 (114 + j) = Y.1 4 j := by
  have e3 : (3 : Int32) * nI n = nI (3 * n) := pk_mul 3 n
  obtain ⟨Y1, a1, a2, a3, a4, a5⟩ := loop_rel (fun f k Z => fX13_sentence_145 f (nI k) Z) (3 * n) (fun k Z => (∀ a, a ≠ 2 → Z.1 a = Y.1 a) ∧ Z.2 = Y.2 ∧ (∀ j, j < 114 → Z.1 2 j = Y.1 2 j) ∧ ∀ j, j < k → Z.1 2 (114 + j) = Y.1 4 j) (fun Z => some (Y.1 0 44, Z))
    (fun f Z hR => by
      show fX13_sentence_145 (f + 1) (nI (3 * n)) Z = _
      rw [fX13_sentence_145, hR.1 0 (by omega), h43, e3, if_pos (nI_le (by omega) (by omega))])
    (fun f k Z hk hR => by
      obtain ⟨r1, r2, r3, r4⟩ := hR
      refine ⟨mx_si Z 2 (114 + k) (Y.1 4 k), ?_, fun a q => by rw [si_row q]; exact r1 a q, r2, fun j hj => by rw [si_nj (by omega)]; exact r3 j hj, fun j hj => ?_⟩
      · show fX13_sentence_145 (f + 1) (nI k) Z = fX13_sentence_145 f (nI (k + 1)) _
        rw [fX13_sentence_145, r1 0 (by omega), h43, e3, if_neg (nI_ge (by omega) (by omega)), c114, nI_add, pb_gd (by omega) (by omega), pb_gd (by omega) (by omega), nI_clamp (by omega), nI_clamp (by omega), nI_1, r1 4 (by omega)]
      · rcases Nat.lt_or_ge j k with q | q
        · rw [si_nj (by omega)]; exact r4 j q
        · have : j = k := by omega
          subst this
          exact si_eq) (3 * n) 0 mx_fu Y (by omega) (by unfold mx_fu; omega) ⟨fun _ _ => rfl, rfl, fun _ _ => rfl, fun j hj => absurd hj (by omega)⟩
  exact ⟨Y1, a1, a2, a3, a4, a5⟩
theorem rSt_S {o P N : Nat} {X : MM} {S S' : Nat → Int32} (h : ∀ i, 54 ≤ i → i < 113 → S' i = S i) (hP : P ≤ 7) (hN : N ≤ 7) (hR : rSt o X S P N) : rSt o X S' P N := by
  obtain ⟨a1, a2, a3, a4, a5⟩ := hR
  refine ⟨by rw [h 54 (by omega) (by omega)]; exact a1, by rw [h 55 (by omega) (by omega)]; exact a2, by rw [h 56 (by omega) (by omega)]; exact a3, fun p hp => ?_, fun r hr => ?_⟩
  · rw [h (57 + p) (by omega) (by omega), h (64 + p) (by omega) (by omega), h (71 + p) (by omega) (by omega)]; exact a4 p hp
  · rw [h (85 + r) (by omega) (by omega), h (92 + r) (by omega) (by omega), h (78 + r) (by omega) (by omega), h (99 + r) (by omega) (by omega), h (106 + r) (by omega) (by omega)]; exact a5 r hr
theorem sDp_rDp {S R : Nat → Int32} : ∀ n, (∀ j, j < 3 * n → S (114 + j) = R j) → sDp S n = rDp R n := by
  intro n
  induction n with
  | zero => intro _; rfl
  | succ n ih => intro h; rw [sDp, rDp, ih (fun j hj => h j (by omega)), h (3 * n) (by omega)]
/-- a new sentence alone -/
theorem Inv.say {X X' Y Y' : MM} {P N : Nat} (h : Inv X Y P N) (x1 : ∀ k, (k < 130 ∨ 133 < k) → X'.1 k = X.1 k) (x2 : X'.2.1 = X.2.1) (x3 : ∀ k, k ≠ 131 → X'.2.2 k = X.2.2 k) (xw : ∀ i, i < 40 → X'.2.2 131 i < 24) (y1 : ∀ a, a ≠ 2 → Y'.1 a = Y.1 a) (yl : Y'.2 = Y.2) (y2 : ∀ j, j < 113 → Y'.1 2 j = Y.1 2 j) (sy : rSy 130 X' (Y'.1 2) P N) : Inv X' Y' P N := by
  have hP := h.p7
  have hN := h.n7
  refine ⟨wLd_same (fun i hi => y2 i (by omega)) h.ld, wSt_same (fun i _ hi => y2 i hi) hP hN h.st, ?_, ?_, ?_, ?_, sy, ?_, ?_, ?_, ?_, ?_, ?_, ?_, ?_⟩
  · rw [← rLo_9]; exact rLo_fr (fun k a b => x1 k (by omega)) hP hN (fun i hi => y2 i (by omega)) h.rl
  · exact rSt_S (fun i _ hi => y2 i hi) hP hN (rSt_fr (fun k a b => x1 k (by omega)) h.rs)
  · exact rPast_fr (fun k a b => x1 k (by omega)) (x3 57 (by omega)) (y1 7 (by omega)) (by rw [y1 0 (by omega)]) h.pa
  · exact rNm_fr (by rw [x2]) (by rw [x2]) hP hN (fun i _ => by rw [yl]) h.nm
  · exact rTp_fr (x1 _ (by omega)) (x1 _ (by omega)) (by rw [y1 0 (by omega)]) (y1 1 (by omega)) h.tp
  · rw [x1 0 (by omega), y1 0 (by omega)]; exact h.ft
  · exact rIm_fr (fun j hj => x1 j (by omega)) (fun j hj => by rw [x2]) (fun j hj => x3 j (by omega)) (y1 19 (by omega)) (by rw [yl]) (y1 21 (by omega)) h.im
  · exact rPl_fr (by rw [x1 143 (by omega)]) (x1 _ (by omega)) (x1 _ (by omega)) (by rw [y1 0 (by omega)]) (y1 10 (by omega)) (by rw [y1 0 (by omega)]) (y1 12 (by omega)) h.pl
  · exact rFi_fr (x1 _ (by omega)) (by rw [y1 0 (by omega)]) (by rw [y1 0 (by omega)]) (by rw [y1 0 (by omega)]) h.fi
  · exact rNt_fr (x1 _ (by omega)) (x1 _ (by omega)) (by rw [y1 0 (by omega)]) (y1 15 (by omega)) h.nt
  · exact rBk_fr (fun j _ => by rw [x1 138 (by omega)]) (by rw [y1 0 (by omega)]) (y1 16 (by omega)) h.bk
  · obtain ⟨a, b, c⟩ := h.rf
    refine ⟨fun k hk => ?_, fun i hi => ?_, fun k hk => ?_⟩
    · rw [x3 154 (by omega), x3 155 (by omega), x3 156 (by omega)]; exact a k hk
    · rw [x3 135 (by omega), x3 178 (by omega), x3 201 (by omega)]
      exact ⟨xw i hi, (b i hi).2⟩
    · rw [yl]; exact c k hk
theorem q_sentence {X Y : MM} {P N : Nat} (h : Inv X Y P N) : RW (fX12_sentence X) (fX13_sentence Y) := by
  have hP := h.p7
  have hN := h.n7
  obtain ⟨L, l1, l2, T, X1, o1, o2, o3, o4⟩ := tx_start (mo := 200) h (by omega)
  obtain ⟨Y1, t1, t2, t3, t4, t5, t6, t7, t8⟩ := m_taken (Y := Y) (mo := nI 200)
  have hY2 : ∃ Y2, Y2 = mx_si (mx_si (mx_si (mx_si (mx_si (mx_si Y1 0 15 (0 : Int32)) 0 43 (0 : Int32)) 0 44 (0 : Int32)) 0 45 (0 : Int32)) 0 46 (1 : Int32)) 0 47 (0 : Int32) := ⟨_, rfl⟩
  obtain ⟨Y2, eY2⟩ := hY2
  have W2 : WY Y1 Y2 := by rw [eY2]; exact (((((WY.rf.si (by omega)).si (by omega)).si (by omega)).si (by omega)).si (by omega)).si (by omega)
  have y2j : ∀ j, j < 15 → Y2.1 0 j = Y1.1 0 j := fun j hj => by rw [eY2, si_nj (by omega), si_nj (by omega), si_nj (by omega), si_nj (by omega), si_nj (by omega), si_nj (by omega)]
  have y2r : ∀ a, a ≠ 0 → Y2.1 a = Y1.1 a := fun a ha => by rw [eY2, si_row ha, si_row ha, si_row ha, si_row ha, si_row ha, si_row ha]
  obtain ⟨Y4, n1, n2, hL0⟩ := o4 Y2 (by rw [y2j 3 (by omega), t4, l2]) (by rw [y2j 5 (by omega), t6]) (by rw [y2r 1 (by omega), t7]) (by rw [y2j 4 (by omega), t5]) (by rw [eY2, si_nj (by omega), si_nj (by omega), si_nj (by omega), si_nj (by omega), si_nj (by omega), si_eq]) (by rw [eY2]; show Y1.2.1 6 = _; rw [t8])
  have V4 : VY Y Y4 := t2.w (W2.tr n2.y.w)
  have z4 : Y4.1 0 2 = 0 := by rw [(W2.tr n2.y.w).2.1 2 (by omega)]; exact t3
  have W1 : WX X (mx_si (mx_si X1 134 3 (0 : Int32)) 134 4 (0 : Int32)) := (o2.si (by omega)).si (by omega)
  have hL := (hL0.xs (k := 134) (j := 3) (v := 0) (by omega)).xs (k := 134) (j := 4) (v := 0) (by omega)
  have hS0 : SR T P N 0 0 0 0 1 [] [] false (mx_si (mx_si X1 134 3 (0 : Int32)) 134 4 (0 : Int32)) Y4 := by
    have y4 : ∀ j, 43 ≤ j → Y4.1 0 j = Y2.1 0 j := fun j hj => n2.1 0 j (by omega)
    refine ⟨hL, h.sb.k W1 V4.1, ⟨si_eq, ?_, by omega⟩, ⟨?_, by simp⟩, ⟨trivial, ?_, by simp⟩, ⟨?_, by omega, ?_⟩, ?_, fun i hi => absurd hi (by omega), rfl⟩
    · rw [y4 44 (by omega), eY2, si_nj (by omega), si_nj (by omega), si_nj (by omega), si_eq]; rfl
    · rw [y4 43 (by omega), eY2, si_nj (by omega), si_nj (by omega), si_nj (by omega), si_nj (by omega), si_eq]; rfl
    · rw [y4 45 (by omega), eY2, si_nj (by omega), si_nj (by omega), si_eq]; rfl
    · rw [y4 46 (by omega), eY2, si_nj (by omega), si_eq]; rfl
    · rw [y4 47 (by omega), eY2, si_eq]; rfl
    · show (mx_si (mx_si X1 134 3 (0 : Int32)) 134 4 (0 : Int32)).1 134 3 = nI 0
      rw [si_nj (by omega), si_eq]; rfl
  have pc : PCond T P N 1 (fX8_readCond (fX8_readAll (xR1 18))) := s_cond (s_all (s_one 18 1 (by omega) (by omega) (by omega)) (by omega)) (by omega)
  rw [fX12_sentence, fX13_sentence, show (200 : Int32) = nI 200 from rfl, o1, t1]
  simp only [pb_bs]
  rw [← eY2, n1, fX8_readFrom, fX8_clear]
  simp only [pb_bs]
  have rT : ∀ M, fX8_readCondT (1 : Int32) M = fX8_readCond (fX8_readAll (xR1 18)) (nI 1) M := fun _ => rfl
  rw [rT]
  have failE : ∀ X5 Y5, WX (mx_si (mx_si X1 134 3 (0 : Int32)) 134 4 (0 : Int32)) X5 → WY Y4 Y5 → FL X5 Y5 → RW (some (((-1 : Int32) - ((mx_si (mx_si X5 1 1 (0 : Int32)) 0 18 ((mx_si X5 1 1 (0 : Int32)).1 3 10)).1 3 11)), (mx_si (mx_si X5 1 1 (0 : Int32)) 0 18 ((mx_si X5 1 1 (0 : Int32)).1 3 10)))) (some ((-1 : Int32) - Y5.1 0 16, Y5)) := by
    intro X5 Y5 g3 g4 g5
    refine ⟨_, _, _, rfl, ?_, P, N, tx_end h (W1.tr g3) (V4.w g4) (by rw [g4.2.1 2 (by omega)]; exact z4) g5.1⟩
    rw [si_nk (by omega), si_nk (by omega), g5.2]
  rcases pc mx_fu 0 0 0 0 [] _ Y4 hS0 (by simp) (fun o ρ q => by cases q) (by unfold mx_fu; omega) with ⟨s', X', Y', f', n', ones', k', τ', b1, b2, b3, b4, b5, b6, b7, b8, b9, b10, b11⟩ | ⟨X', Y', b1, b2, b3, b4, b5⟩
  · rw [b1, b2]
    simp only [pb_bs]
    rw [if_neg b_t, p_isAt b4.1]
    simp only [pb_bs]
    obtain ⟨f', rfl⟩ : ∃ z, f' = z + 2 := ⟨f' - 2, by have := b4.1.s941; omega⟩
    obtain ⟨Ya, Yb, a1, a2, a3, d1, d2, d3⟩ := s_flush (tl := 22) b4 (by omega) (by omega) (fun o ho => by have := b3 o ho; omega) (fun o ρ e => by cases e)
    have d1' : fX13_joins 22 Ya = some Yb := d1
    have d2' := d2
    obtain ⟨c1, c2, ⟨c3, c4, c5⟩, ⟨c6, c7⟩, ⟨c8, c9, c10⟩, ⟨c11, c11', c12⟩, c13, c14, c15⟩ := d2
    have c9' : Yb.1 0 45 = 0 := c9
    by_cases e1 : X'.1 4 s' = 1
    · have y11 : Y'.1 0 11 = 0 := b4.1.tk.end_.mp e1
      have y47 : Y'.1 0 47 = mx_b true := by
        obtain ⟨-, -, -, -, -, ⟨-, -, z⟩, -, -, -⟩ := b4
        exact z
      have c7' : n' + k' + τ'.length + (0 + 1) ≤ 2 * ones' := by rw [List.length_nil, Nat.add_zero] at c7; exact c7
      obtain ⟨Yc, m1, m2, m3, m4, m5⟩ := m_s145 (Y := mx_si Yb 2 113 (Yb.1 0 43)) (n := n' + k' + τ'.length) (by omega) (by rw [si_nk (by omega)]; exact c6)
      have r2 : fX13_sentence_48 (f' + 2) true Y' = some (nI ones', Yc) := by
        rw [fX13_sentence_48, if_neg b_t, y47, if_neg b_t, if_pos y11, a1]
        simp only [pb_bs]
        rw [d1']
        simp only [pb_bs]
        rw [c9', if_pos (by decide), fX13_sentence_48, if_pos b_f, m1, si_nk (by omega), c4]
      rw [r2, decide_eq_true e1, if_neg b_t]
      simp only [pb_bs]
      rw [fX10_clear]
      simp only [pb_bs]
      rw [if_neg b_t]
      have WA := W1.tr b5
      have hX6 : ∃ X6, X6 = mx_si (mx_si X' 1 1 (0 : Int32)) 0 18 ((mx_si X' 1 1 (0 : Int32)).1 3 10) := ⟨_, rfl⟩
      obtain ⟨X6, eX6⟩ := hX6
      have hI6 := tx_end h WA (V4.w (b6.tr d3)) (by rw [(b6.tr d3).2.1 2 (by omega)]; exact z4) (c1.ft.1.trans c1.ft.2.symm)
      rw [← eX6] at hI6 ⊢
      have x6r : ∀ a, a ≠ 0 → a ≠ 1 → X6.1 a = X'.1 a := fun a a0 a1 => by rw [eX6, si_row a0, si_row a1]
      have x6s : X6.2 = X'.2 := by rw [eX6]; rfl
      clear eX6
      obtain ⟨X7, q1, q2, q3, q4, q5, q6, q7⟩ := x_copySy (o := 130) (o1 := 134) (X := X6) (by omega) (fun i hi => (hI6.rf.2.1 i hi).2.1)
      rw [q1]
      simp only [pb_bs]
      have yc2 : ∀ j, j < 3 * (n' + k' + τ'.length) → Yc.1 2 (114 + j) = Yb.1 4 j := fun j hj => by rw [m5 j hj, si_nk (by omega)]
      have n0 : n' + k' + τ'.length ≠ 0 := fun q => by
        rw [q, rDp, cB] at c15
        injection c15 with c15
        omega
      have sy : rSy 134 X6 (Yc.1 2) P N := by
        refine ⟨n' + k' + τ'.length, ones', by omega, ?_, ?_, ?_, c5, ⟨fun q => by omega, fun q => absurd q n0⟩, Or.inr ?_, fun i hi => ?_⟩
        · rw [x6r 134 (by omega) (by omega)]; exact c13
        · rw [m4 113 (by omega), si_eq]; exact c6
        · rw [x6r 134 (by omega) (by omega)]; exact c3
        · rw [sDp_rDp (R := Yb.1 4) _ yc2, c15, cB]
        · show rC P N (X6.2.2 135 i) (X6.1 136 i) (X6.1 137 i) _ _ _
          rw [x6s, x6r 136 (by omega) (by omega), x6r 137 (by omega) (by omega), yc2 (3 * i) (by omega), show 115 + 3 * i = 114 + (3 * i + 1) by omega, show 116 + 3 * i = 114 + (3 * i + 2) by omega, yc2 _ (by omega), yc2 _ (by omega)]
          exact c14 i hi
      refine ⟨nI ones', X7, Yc, ?_, rfl, P, N, hI6.say (fun k hk => q2 k (by omega)) q3 (fun k hk => q4 k hk) q5 (fun a ha => by rw [m2 a ha, si_row ha]) m3 (fun j hj => by rw [m4 j (by omega), si_nj (by omega)]) (q7 _ P N sy)⟩
      rw [q6, x6r 134 (by omega) (by omega), c3]
    · rw [decide_eq_false e1, if_pos b_f]
      obtain ⟨X5, Y5, q1, q2, q3, q4, q5⟩ := p_fail c1 1
      rw [q1]
      simp only [pb_bs]
      rw [if_pos b_f]
      simp only [pb_bs]
      rw [fX10_clear]
      simp only [pb_bs]
      rw [if_pos b_f]
      have iw1 := p_isWord a2.1 12 (by omega)
      have iw2 := p_isWord a2.1 11 (by omega)
      have g2 : fX13_isSign 41 Yb = some (decide (X'.1 4 s' = 5 ∧ X'.1 6 s' = nI 41)) := (p_isSign (c := 41) c1 (by decide) (by omega)).2
      have be : fX13_behind Y' = fX13_bad 1 Yb := by
        rw [fX13_behind, a1, show (6385252 : Int64) = resW 12 from rfl, show (28530 : Int64) = resW 11 from rfl]
        simp only [pb_bs]
        rw [iw1, iw2]
        simp only [pb_bs]
        rw [decide_eq_false b11.2, if_pos b_f, decide_eq_false b11.1, if_pos b_f, d1']
        simp only [pb_bs]
        rw [g2]
        simp only [pb_bs]
        have o114 : fX13_behind_114 Yb = fX13_bad 1 Yb := ob
        rw [c9', if_pos rfl, o114]
        split <;> rfl
      have r2 : fX13_sentence_48 (f' + 2) true Y' = some ((-1 : Int32) - Y5.1 0 16, Y5) := by
        rw [s48_be b4 e1, be, q2]
        simp only [pb_bs]
        rw [if_pos b_f]
      rw [r2]
      exact failE X5 Y5 (b5.tr q3.w) ((b6.tr d3).tr q4.w) q5
  · rw [b1, b2]
    simp only [pb_bs]
    rw [if_pos b_f]
    simp only [pb_bs]
    rw [fX10_clear]
    simp only [pb_bs]
    rw [if_pos b_f]
    exact failE X' Y' b3 b4 b5
