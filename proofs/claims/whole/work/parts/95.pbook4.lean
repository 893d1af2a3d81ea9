/-! a book, the whole call -/
theorem SB.k {P N : Nat} {X Y X' Y' : MM} (h : SB P N X Y) (hX : WX X X') (hY : yKq Y Y') : SB P N X' Y' := by
  obtain ⟨a1, a2, a3, a4, a5, a6, a7, a8⟩ := h
  refine ⟨a1, a2, by rw [hX.1.c1 9 (by omega)]; exact a3, by rw [hX.1.c1 9 (by omega)]; exact a4, by rw [hY.a2]; exact a5, by rw [hY.a2]; exact a6, ⟨a7.1, a7.2.1, fun p hp => ?_⟩, ⟨a8.1, a8.2.1, fun p hp => ?_⟩⟩
  · rw [hX.1.l 10 (by omega), hY.l5 _ (by omega)]; exact a7.2.2 p hp
  · rw [hX.1.l 14 (by omega), hY.l5 _ (by omega)]; exact a8.2.2 p hp
theorem m_b89 {Y : MM} {i1 : Int32} : ∃ Y', fX13_book_89 i1 mx_fu 0 Y = fX13_book_111 i1 mx_fu (-1) 0 Y' ∧ (∀ a, a ≠ 16 → Y'.1 a = Y.1 a) ∧ Y'.2 = Y.2 ∧ ∀ j, j < 4 → Y'.1 16 j = 0 := by
  obtain ⟨Y1, a1, a2, a3, a4⟩ := loop_rel (fun n k Z => fX13_book_89 i1 n (nI k) Z) 4 (fun k Z => (∀ a, a ≠ 16 → Z.1 a = Y.1 a) ∧ Z.2 = Y.2 ∧ ∀ j, j < k → Z.1 16 j = 0) (fun Z => fX13_book_111 i1 mx_fu (-1) 0 Z)
    (fun n Z hR => by
      show fX13_book_89 i1 (n + 1) (nI 4) Z = _
      rw [fX13_book_89, c4, if_pos (nI_le (by omega) (by omega))])
    (fun n k Z hk hR => by
      obtain ⟨r1, r2, r3⟩ := hR
      refine ⟨mx_si Z 16 k 0, ?_, fun a q => by rw [si_row q]; exact r1 a q, r2, fun j hj => ?_⟩
      · show fX13_book_89 i1 (n + 1) (nI k) Z = fX13_book_89 i1 n (nI (k + 1)) _
        rw [fX13_book_89, c4, if_neg (nI_ge (by omega) (by omega)), pb_gd (by omega) (by omega), nI_clamp (by omega), nI_1]
      · rcases Nat.lt_or_ge j k with q | q
        · rw [si_nj (by omega)]; exact r3 j q
        · have : j = k := by omega
          subst this
          exact si_eq) 4 0 mx_fu Y (by omega) (by unfold mx_fu; omega) ⟨fun _ _ => rfl, rfl, fun j hj => absurd hj (by omega)⟩
  exact ⟨Y1, a1, a2, a3, a4⟩
theorem m_b252 {i1 i2 : Int32} {k286 : Int32 → MM → Option (Int32 × MM)} {V : Nat} (hV : 1 ≤ V ∧ V ≤ 8) (Y : MM) (h : Y.1 0 23 = nI V) : ∀ c i n, i + c = 59 → c < n → fX13_book_252 i1 i2 k286 n (nI i) (cpR Y 7 (fun j => Y.1 8 j) (59 * (V - 1)) i) = k286 i2 (cpR Y 7 (fun j => Y.1 8 j) (59 * (V - 1)) 59) := by
  intro c
  induction c with
  | zero =>
    intro i n hi hn
    obtain ⟨n, rfl⟩ : ∃ z, n = z + 1 := ⟨n - 1, by omega⟩
    have : i = 59 := by omega
    subst this
    rw [fX13_book_252, c59, if_pos (nI_le (by omega) (by omega))]
  | succ c ih =>
    intro i n hi hn
    obtain ⟨n, rfl⟩ : ∃ z, n = z + 1 := ⟨n - 1, by omega⟩
    have e := cpR_s (Y := Y) (c := 7) (b := 59 * (V - 1)) (k := i) (f := fun j => Y.1 8 j)
    have b := Nat.mul_le_mul_left 59 (show V - 1 ≤ 7 by omega)
    rw [fX13_book_252, c59, if_neg (nI_ge (by omega) (by omega)), cpR_n (by omega), h, c1, pk_sub (by omega), pk_mul, nI_add, pb_gd (by omega) (by omega), pb_gd (by omega) (by omega), nI_clamp (by omega), nI_clamp (by omega), nI_add, cpR_n (by omega), e]
    exact ih (i + 1) n (by omega) (by omega)
theorem q_book13 {X Y : MM} {P N p : Nat} (h : Inv X Y P N) (hp : p < 2) : RW (fX12_book_13 (nI p) X) ((fX13_taken (400 : Int32) (mx_si Y 0 0 (0 : Int32))).bind fun q22 => (fX13_next (mx_si (mx_si q22 0 15 (0 : Int32)) 0 39 (0 : Int32))).bind fun q36 => fX13_book_39 (nI p) mx_fu q36) := by
  have hP := h.p7
  have hN := h.n7
  obtain ⟨L, l1, l2, T, X1, o1, o2, o3, o4⟩ := tx_start (mo := 400) h (by omega)
  obtain ⟨Y1, t1, t2, t3, t4, t5, t6, t7, t8⟩ := m_taken (Y := Y) (mo := nI 400)
  have W3' : WY Y1 (mx_si (mx_si Y1 0 15 (0 : Int32)) 0 39 (0 : Int32)) := (WY.rf.si (by omega)).si (by omega)
  obtain ⟨Y4, n1, n2, hL0⟩ := o4 (mx_si (mx_si Y1 0 15 (0 : Int32)) 0 39 (0 : Int32)) (by rw [si_nj (by omega), si_nj (by omega), t4, l2]) (by rw [si_nj (by omega), si_nj (by omega), t6]) (by rw [si_row (by omega), si_row (by omega), t7]) (by rw [si_nj (by omega), si_nj (by omega), t5]) (by rw [si_nj (by omega), si_eq]) (by show Y1.2.1 6 = _; rw [t8])
  have V4 : VY Y Y4 := t2.w (W3'.tr n2.y.w)
  have z4 : Y4.1 0 2 = 0 := by rw [(W3'.tr n2.y.w).2.1 2 (by omega)]; exact t3
  have W1 : WX X (mx_si X1 138 4 (0 : Int32)) := o2.si (by omega)
  have hL := hL0.xs (k := 138) (j := 4) (v := 0) (by omega)
  have hB0 : BK P N 0 (mx_si X1 138 4 (0 : Int32)) Y4 := ⟨by omega, si_eq, by rw [n2.1 0 39 (by omega), si_eq]; rfl, fun i hi => absurd hi (by omega)⟩
  rw [fX12_book_13, show (400 : Int32) = nI 400 from rfl, o1, t1]
  simp only [pb_bs]
  rw [n1, fX1_readFrom]
  simp only [pb_bs]
  rcases b_loop (i1 := nI p) 40 mx_fu mx_fu 0 0 _ Y4 (by omega) (by unfold mx_fu; omega) (by unfold mx_fu; omega) hL (h.sb.k W1 V4.1) hB0 with ⟨s', X5, Y5, k, g1, g2, g3, g4, g5, g6⟩ | ⟨X5, Y5, g1, g2, g3, g4, g5⟩
  · rw [g1, g2]
    simp only [pb_bs]
    rw [fX10_clear]
    simp only [pb_bs]
    rw [if_neg b_t]
    have hI6 := tx_end h (W1.tr g3) (V4.w g4) (by rw [g4.2.1 2 (by omega)]; exact z4) (g5.ft.1.trans g5.ft.2.symm)
    obtain ⟨hk, x38, y39, hB⟩ := g6
    have hX6 : ∃ X6, X6 = mx_si (mx_si X5 1 1 (0 : Int32)) 0 18 ((mx_si X5 1 1 (0 : Int32)).1 3 10) := ⟨_, rfl⟩
    obtain ⟨X6, eX6⟩ := hX6
    rw [← eX6] at hI6 ⊢
    have x6r : ∀ a, a ≠ 0 → a ≠ 1 → X6.1 a = X5.1 a := fun a a0 a1 => by rw [eX6, si_row a0, si_row a1]
    clear eX6
    obtain ⟨X7, d1, d2, d3⟩ := x_copySt (o := 47) (o1 := 29) (X := X6) (Or.inl (by omega))
    have r7 : rSt 47 X7 (Y5.1 2) P N := d3 _ P N hP hN hI6.rs
    rw [d1, m_tries]
    simp only [pb_bs]
    have hY8 : ∃ Y8, Y8 = cpR Y5 8 (fun i => Y5.1 2 (54 + i)) 0 59 := ⟨_, rfl⟩
    obtain ⟨Y8, eY8⟩ := hY8
    rw [← eY8]
    have y8r : ∀ a, a ≠ 8 → Y8.1 a = Y5.1 a := fun a ha => by rw [eY8, cpR_n ha]
    have y8s : ∀ j, j < 59 → Y8.1 8 j = Y5.1 2 (54 + j) := fun j hj => by
      have := cpR_in (Y := Y5) (c := 8) (b := 0) (n := 59) (f := fun i => Y5.1 2 (54 + i)) hj
      rw [Nat.zero_add] at this
      rw [eY8, this]
    have y8l : Y8.2 = Y5.2 := by rw [eY8]; rfl
    clear eY8
    obtain ⟨Y9, e1, e2, e3, e4⟩ := m_b89 (Y := Y8) (i1 := nI p)
    rw [e1, fX1_judge]
    have y9r : ∀ a, a ≠ 8 → a ≠ 16 → Y9.1 a = Y5.1 a := fun a a1 a2 => by rw [e2 a a2, y8r a a1]
    have x8r : ∀ a, (a < 47 ∨ 55 < a) → a ≠ 138 → (mx_si (mx_si X7 138 6 (0 : Int32)) 138 7 (0 : Int32)).1 a = X6.1 a := fun a h1 h2 => by rw [si_row h2, si_row h2, d2.1 a (by omega)]
    obtain ⟨i', v, X', Y', S', j1, j2, j3, j4, j5, j6, j67, j7, j8, j9⟩ := j_loop (P := P) (N := N) (k := k) (X0 := mx_si (mx_si X7 138 6 (0 : Int32)) 138 7 (0 : Int32)) (Y0 := Y9) (S0 := Y5.1 2) (i1 := nI p) hk hI6.ld (by
        rw [← rLo_9]
        exact rLo_fr (fun k k1 k2 => x8r k (by omega) (by omega)) hP hN (fun _ _ => rfl) hI6.rl) (by rw [si_nj (by omega), si_nj (by omega), d2.1 138 (by omega), x6r 138 (by omega) (by omega)]; exact x38) (by rw [y9r 0 (by omega) (by omega)]; exact y39) (fun i hi => (hB i hi).fr (fun a q1 q2 => by rw [x8r a (by omega) (by omega), x6r a (by omega) (by omega)]) (fun j q1 q2 => by rw [y9r 4 (by omega) (by omega)])) k 0 mx_fu mx_fu (mx_si (mx_si X7 138 6 (0 : Int32)) 138 7 (0 : Int32)) Y9 (Y5.1 2) (by omega) (by unfold mx_fu; omega) (by unfold mx_fu; omega) ⟨fun _ _ _ => rfl, fun _ _ _ => rfl, rfl, fun _ _ _ => rfl, fun _ _ => rfl, rfl, y9r 2 (by omega) (by omega), rSt_fr (fun k k1 k2 => by rw [si_row (by omega), si_row (by omega)]) r7, hI6.st, sameL.rf, sameC.rf⟩ (by rw [si_nj (by omega), si_eq]) si_eq (e4 0 (by omega)) (e4 1 (by omega))
    have j1' : fX1_judge_12 mx_fu (0 : Int32) (mx_si (mx_si X7 138 6 (0 : Int32)) 138 7 (0 : Int32)) = fX1_judge_69 X' := j1
    have j2' : fX13_book_111 (nI p) mx_fu (-1 : Int32) (0 : Int32) Y9 = fX13_book_201 (nI p) (if v = 0 then -1 else nI i') Y' := j2
    rw [j1', j2']
    obtain ⟨k1, k2, k3, k4, k5, k6, k7, k8, k9, k10, k11⟩ := j9
    have x9N : X'.1 9 1 = nI N := by rw [k1 9 (by omega) (by omega), x8r 9 (by omega) (by omega)]; exact hI6.x1
    have jud : fX1_judge_69 X' = some (if v = 0 then -1 else nI i', mx_si (mx_si (mx_si X' 138 8 (S' 54)) 138 9 (sBy S' N 85 2)) 138 5 (1 : Int32)) := by
      rw [fX1_judge_69, k8.1, fX9_ringsThatAre, x_ringsWith (S := S') (row := 85) (by rw [si_nk (by omega)]; exact x9N) hN (fun r hr => by rw [si_nk (by omega)]; exact (k8.2.2.2.2 r hr).1)]
      simp only [pb_bs]
      rw [si_nj (by omega), si_nj (by omega), si_nj (by omega), j6, si_nj (by omega), si_nj (by omega), si_nj (by omega), j67]
      by_cases h0 : v = 0
      · rw [if_pos h0, if_pos h0]
      · rw [if_neg h0, if_neg h0]
    rw [jud]
    simp only [pb_bs]
    have hXb : ∃ Xb, Xb = mx_si (mx_si (mx_si X' 138 8 (S' 54)) 138 9 (sBy S' N 85 2)) 138 5 (1 : Int32) := ⟨_, rfl⟩
    obtain ⟨Xb, eXb⟩ := hXb
    rw [← eXb]
    have xbr : ∀ a, a ≠ 138 → Xb.1 a = X'.1 a := fun a ha => by rw [eXb, si_row ha, si_row ha, si_row ha]
    have xbs : Xb.2 = X6.2 := by
      rw [eXb]
      show X'.2 = _
      rw [k3]
      show X7.2 = _
      rw [d2.2]
    have xb5 : Xb.1 138 5 = 1 := by rw [eXb, si_eq]
    have xb6 : Xb.1 138 6 = v := by rw [eXb, si_nj (by omega), si_nj (by omega), si_nj (by omega)]; exact j6
    have xb7 : Xb.1 138 7 = nI i' := by rw [eXb, si_nj (by omega), si_nj (by omega), si_nj (by omega)]; exact j67
    have xb8 : Xb.1 138 8 = S' 54 := by rw [eXb, si_nj (by omega), si_nj (by omega), si_eq]
    have xb9 : Xb.1 138 9 = sBy S' N 85 2 := by rw [eXb, si_nj (by omega), si_eq]
    clear eXb
    have xb : ∀ a, (a < 47 ∨ 55 < a) → a ≠ 138 → Xb.1 a = X6.1 a := fun a h1 h2 => by rw [xbr a h2, k1 a h1 h2, x8r a h1 h2]
    have yN : (mx_si Y' 16 2 (Y'.1 2 54)).1 2 1 = nI N := by rw [si_nk (by omega), k7, k10 1 (by omega)]; exact hI6.y1
    have rb : fX13_ringsBy (85 : Int32) (2 : Int32) (mx_si Y' 16 2 (Y'.1 2 54)) = some (sBy S' N 85 2) := by
      have := m_ringsBy (row := 85) (v := 2) (M := mx_si Y' 16 2 (Y'.1 2 54)) (N := N) (by omega) hN yN
      rw [si_row (by omega), k7] at this
      rw [k7]
      exact this
    rw [fX13_book_201, rb]
    simp only [pb_bs]
    have hYa : ∃ Ya, Ya = mx_si (mx_si (mx_si Y' 16 2 (Y'.1 2 54)) 16 3 (sBy S' N 85 2)) 0 41 (1 : Int32) := ⟨_, rfl⟩
    obtain ⟨Ya, eYa⟩ := hYa
    rw [← eYa]
    have yar : ∀ a, a ≠ 0 → a ≠ 16 → Ya.1 a = Y'.1 a := fun a h0 h1 => by rw [eYa, si_row h0, si_row h1, si_row h1]
    have ya0 : ∀ j, j ≠ 41 → Ya.1 0 j = Y5.1 0 j := fun j hj => by rw [eYa, si_nj hj, si_nk (by omega), si_nk (by omega), k4 0 (by omega) (by omega), y9r 0 (by omega) (by omega)]
    have ya41 : Ya.1 0 41 = 1 := by rw [eYa, si_eq]
    have ya160 : Ya.1 16 0 = v := by rw [eYa, si_nk (by omega), si_nj (by omega), si_nj (by omega)]; exact j7
    have ya161 : Ya.1 16 1 = nI i' := by rw [eYa, si_nk (by omega), si_nj (by omega), si_nj (by omega)]; exact j8
    have ya162 : Ya.1 16 2 = S' 54 := by rw [eYa, si_nk (by omega), si_nj (by omega), si_eq, k7]
    have ya163 : Ya.1 16 3 = sBy S' N 85 2 := by rw [eYa, si_nk (by omega), si_eq]
    have yal : Ya.2 = Y5.2 := by
      rw [eYa]
      show Y'.2 = _
      rw [k6, e3, y8l]
    clear eYa
    have ya : ∀ a, a ≠ 0 → a ≠ 2 → a ≠ 8 → a ≠ 16 → Ya.1 a = Y5.1 a := fun a h0 h2 h8 h16 => by rw [yar a h0 h16, k4 a h2 h16, y9r a h8 h16]
    have ya2 : Ya.1 2 = S' := by rw [yar 2 (by omega) (by omega)]; exact k7
    have ya8 : ∀ j, j < 59 → Ya.1 8 j = Y5.1 2 (54 + j) := fun j hj => by rw [yar 8 (by omega) (by omega), k4 8 (by omega) (by omega), e2 8 (by omega), y8s j hj]
    have hI9 : Inv Xb (sS Ya (Y5.1 2)) P N := by
      refine Inv.gen (X := X6) (Y := Y5) ⟨fun k hk => xb k (by omega) (by omega), by rw [xb 143 (by omega) (by omega)], fun k _ => by rw [xbs], fun k _ => by rw [xbs], fun q i hi => by rw [xbs]; exact q i hi⟩ ⟨sS_2, ?_, ?_, ?_, ?_, ?_, ?_, fun j hj => ?_, fun i _ => ?_, ?_, ?_⟩ hI6 ?_ ?_ ?_ ?_
      · rw [sS_n (by omega), ya 7 (by omega) (by omega) (by omega) (by omega)]
      · rw [sS_n (by omega), ya 10 (by omega) (by omega) (by omega) (by omega)]
      · rw [sS_n (by omega), ya 12 (by omega) (by omega) (by omega) (by omega)]
      · rw [sS_n (by omega), ya 15 (by omega) (by omega) (by omega) (by omega)]
      · rw [sS_n (by omega), ya 19 (by omega) (by omega) (by omega) (by omega)]
      · rw [sS_n (by omega), ya 21 (by omega) (by omega) (by omega) (by omega)]
      · rw [sS_n (by omega), ya0 j (by omega)]
      · rw [sS_s, yal]
      · rw [sS_s, yal]
      · rw [sS_s, yal]
      · exact rTp_fr (xb 1 (by omega) (by omega)) (xb 2 (by omega) (by omega)) (by rw [sS_n (by omega), ya0 2 (by omega)]) (by rw [sS_n (by omega), ya 1 (by omega) (by omega) (by omega) (by omega)]) hI6.tp
      · rw [xb 0 (by omega) (by omega), sS_n (by omega), ya0 15 (by omega)]; exact hI6.ft
      · exact rFi_fr (xb 149 (by omega) (by omega)) (by rw [sS_n (by omega), ya0 32 (by omega)]) (by rw [sS_n (by omega), ya0 30 (by omega)]) (by rw [sS_n (by omega), ya0 31 (by omega)]) hI6.fi
      · right
        rw [sS_n (by omega), sS_n (by omega), xb5, xb6, xb7, xb8, xb9, ya41, ya160, ya161, ya162, ya163]
        exact ⟨rfl, rfl, rfl, rfl, rfl, rfl⟩
    rcases (by omega : p = 0 ∨ p = 1) with rfl | rfl
    · rw [if_neg (show ¬ nI 0 = (1 : Int32) by decide), if_neg (show ¬ nI 0 = (1 : Int32) by decide), fX13_book_286, if_pos (show nI 0 = (0 : Int32) from rfl), m_back]
      have ef : cpR Ya 2 (fun i => Ya.1 8 i) 54 59 = sS Ya (Y5.1 2) := by
        refine Prod.ext ?_ rfl
        funext a j
        show (if _ then _ else _) = (if _ then _ else _)
        by_cases a2 : a = 2
        · subst a2
          rw [if_pos rfl]
          by_cases hj : 54 ≤ j ∧ j < 54 + 59
          · rw [if_pos ⟨rfl, hj⟩, ya8 _ (by omega), show 54 + (j - 54) = j by omega]
          · rw [if_neg (fun q => hj q.2), ya2]
            rcases (by omega : j < 54 ∨ 113 ≤ j) with q | q
            · exact k10 j q
            · exact k11 j q
        · rw [if_neg (fun q => a2 q.1), if_neg a2]
      simp only [pb_bs]
      rw [ef]
      exact ⟨_, _, _, rfl, rfl, P, N, hI9⟩
    · rw [if_pos (show nI 1 = (1 : Int32) from rfl), if_pos (show nI 1 = (1 : Int32) from rfl), xb7, ya161]
      by_cases h0 : i' = 0
      · have e0 : S' = Y5.1 2 := j5 h0
        have ef : sS Ya (Y5.1 2) = Ya := by
          have := sS_self (M := Ya)
          rw [ya2, e0] at this
          exact this
        rw [ef] at hI9
        rw [h0, if_pos (show nI 0 ≤ (0 : Int32) by decide), if_pos (show nI 0 ≤ (0 : Int32) by decide), fX13_book_286, if_neg (show ¬ nI 1 = (0 : Int32) by decide)]
        exact ⟨_, _, _, rfl, rfl, P, N, hI9⟩
      · rw [if_neg (nI_nle (by omega) (by omega)), if_neg (nI_nle (by omega) (by omega))]
        have hpa : rPast Xb Ya P N := rPast_fr (fun _ _ _ => rfl) rfl (sS_n (by omega)).symm (by rw [sS_n (by omega)]) hI9.pa
        obtain ⟨U, hU, eU⟩ := rPast_U hpa
        obtain ⟨Y10, m1, m2⟩ := m_keep hU eU
        obtain ⟨ma, mb, mc, md, me⟩ := m2
        rw [m1]
        simp only [pb_bs]
        have hV : ∃ V, 1 ≤ V ∧ V ≤ 8 ∧ Y10.1 0 23 = nI V ∧ (U < 8 → V = U + 1) ∧ (U = 8 → V = 8) := by
          by_cases q : U = 8
          · exact ⟨8, by omega, by omega, (me q).1, fun z => absurd z (by omega), fun _ => rfl⟩
          · exact ⟨U + 1, by omega, by omega, (md (by omega)).1, fun _ => rfl, fun z => absurd z q⟩
        obtain ⟨V, v1, v2, v3, v4, v5⟩ := hV
        have b252 := m_b252 (i1 := nI 1) (i2 := if v = 0 then -1 else nI i') (k286 := fun i2' M' => fX13_book_286 (nI 1) i2' M') ⟨v1, v2⟩ Y10 v3 59 0 mx_fu (by omega) (by unfold mx_fu; omega)
        rw [cpR_0] at b252
        have b252' : fX13_book_252 (nI 1) (if v = 0 then -1 else nI i') (fun i2' M' => fX13_book_286 (nI 1) i2' M') mx_fu (0 : Int32) Y10 = fX13_book_286 (nI 1) (if v = 0 then -1 else nI i') (cpR Y10 7 (fun j => Y10.1 8 j) (59 * (V - 1)) 59) := b252
        rw [b252', fX13_book_286, if_neg (show ¬ nI 1 = (0 : Int32) by decide)]
        have hYf : ∃ Yf, Yf = cpR Y10 7 (fun j => Y10.1 8 j) (59 * (V - 1)) 59 := ⟨_, rfl⟩
        obtain ⟨Yf, eYf⟩ := hYf
        rw [← eYf]
        have fr : ∀ a, a ≠ 7 → Yf.1 a = Y10.1 a := fun a ha => by rw [eYf, cpR_n ha]
        have fl : Yf.2 = Y10.2 := by rw [eYf]; rfl
        have f7i : ∀ j, j < 59 → Yf.1 7 (59 * (V - 1) + j) = Y5.1 2 (54 + j) := fun j hj => by
          rw [eYf, cpR_in hj, ma 8 (by omega) (by omega), ya8 j hj]
        have f7o : ∀ j, j < 59 * (V - 1) → Yf.1 7 j = Y10.1 7 j := fun j hj => by rw [eYf, cpR_out (by omega)]
        clear eYf b252 b252'
        have mk : ∀ W, Ya.1 0 23 = nI W → W ≤ 8 → mKept Ya Yf W (Y5.1 2) := by
          intro W hW hW8
          have : W = U := by
            rw [eU] at hW
            exact ((nI_eq (by omega) (by omega)).mp hW).symm
          subst this
          refine ⟨fun a h7 h0 => by rw [fr a h7]; exact ma a h7 h0, fun b hb => by rw [fr 0 (by omega)]; exact mb b hb, fl.trans mc, fun q => ?_, fun q => ?_⟩
          · have e := v4 q
            refine ⟨by rw [fr 0 (by omega), v3, e], fun i j hi hj => ?_, fun j hj => ?_⟩
            · have : 59 * i + j < 59 * (V - 1) := by
                have := Nat.mul_le_mul_left 59 (show i + 1 ≤ V - 1 by omega)
                omega
              rw [f7o _ this]
              exact (md q).2.1 i j hi hj
            · rw [show W = V - 1 by omega]; exact f7i j hj
          · have e := v5 q
            refine ⟨by rw [fr 0 (by omega), v3, e], fun i j hi hj => ?_, fun j hj => ?_⟩
            · have : 59 * i + j < 59 * (V - 1) := by
                have := Nat.mul_le_mul_left 59 (show i + 1 ≤ V - 1 by omega)
                omega
              rw [f7o _ this]
              exact (me q).2.1 i j hi hj
            · have e7 : 59 * 7 + j = 59 * (V - 1) + j := by rw [show V - 1 = 7 by omega]
              rw [e7]; exact f7i j hj
        obtain ⟨X10, p1, p2, p3, p4, p5⟩ := x_push (o1 := 29) (by omega) hP hN (S := Y5.1 2) (by have := hI9.rs; rw [sS_2] at this; exact this) hI6.st hpa mk
        obtain ⟨X11, c1', c2', c3'⟩ := x_copySt (o := 29) (o1 := 47) (X := X10) (Or.inr (by omega))
        rw [p1]
        simp only [pb_bs]
        rw [c1']
        simp only [pb_bs]
        have r47 : rSt 47 X10 S' P N := rSt_fr (fun k k1 k2 => by rw [p2 k (by omega), xbr k (by omega)]) k8
        have yf2 : Yf.1 2 = S' := by rw [fr 2 (by omega), ma 2 (by omega) (by omega)]; exact ya2
        refine ⟨_, X11, Yf, rfl, rfl, P, N, hI9.act (fun k hk => ?_) ?_ (fun k hk => ?_) (fun a a0 a2 a7 a8 => ?_) (fun j j0 j23 j38 => ?_) ?_ ?_ ?_ ?_ ?_ ?_⟩
        · rw [c2'.1 k (by omega), p2 k (by omega)]
        · rw [c2'.2, p3]
        · rw [c2'.2, p4 k hk]
        · rw [fr a a7, ma a a7 a0, sS_n a2]
        · rw [fr 0 (by omega), mb j j23, sS_n (by omega)]
        · rw [fl, mc, sS_s]
        · rw [sS_2, yf2]; exact k10
        · rw [sS_2, yf2]; exact k11
        · rw [yf2]; exact k9
        · rw [yf2]; exact c3' _ P N hP hN r47
        · exact rPast_fr (fun k k1 k2 => c2'.1 k (by omega)) (by rw [c2'.2]) rfl rfl p5
  · rw [g1, g2]
    simp only [pb_bs]
    rw [fX10_clear]
    simp only [pb_bs]
    rw [if_pos b_f]
    refine ⟨_, _, _, rfl, ?_, P, N, tx_end h (W1.tr g3) (V4.w g4) (by rw [g4.2.1 2 (by omega)]; exact z4) g5.1⟩
    rw [si_nk (by omega), si_nk (by omega), g5.2]
theorem q_book {X Y : MM} {P N : Nat} {i : Int32} (h : Inv X Y P N) : RW (fX12_book i X) (fX13_book i Y) := by
  rw [fX12_book, fX13_book, isIn01]
  simp only [pb_bs]
  rcases in_cases i 2 (by omega) with hr | ⟨p, hp, rfl⟩
  · have n0 : ¬ i = 0 := fun q => by rw [q] at hr; exact absurd hr (by decide)
    have n1 : ¬ i = 1 := fun q => by rw [q] at hr; exact absurd hr (by decide)
    rw [hr, if_neg n0, if_neg n1, if_pos b_f]
    exact ⟨_, _, _, rfl, rfl, P, N, h.th⟩
  · rw [pb_in hp (by omega), if_neg b_t]
    have e : (if nI p = 0 then fX12_book_13 (nI p) X else if nI p = (1 : Int32) then fX12_book_13 (nI p) X else some ((-1000 : Int32), X)) = fX12_book_13 (nI p) X := by
      rcases (by omega : p = 0 ∨ p = 1) with rfl | rfl
      · rw [if_pos (by decide)]
      · rw [if_neg (by decide), if_pos (by decide)]
    rw [e]
    exact q_book13 h hp
