/-! a book: its lines -/
def SB (P N : Nat) (X Y : MM) : Prop := P ≤ 7 ∧ N ≤ 7 ∧ X.1 9 0 = nI P ∧ X.1 9 1 = nI N ∧ Y.1 2 0 = nI P ∧ Y.1 2 1 = nI N ∧ NmR 10 0 P X Y ∧ NmR 14 7 N X Y
theorem SB.w {P N : Nat} {X Y X' Y' : MM} (h : SB P N X Y) (hX : WX X X') (hY : WY Y Y') : SB P N X' Y' := by
  obtain ⟨a1, a2, a3, a4, a5, a6, a7, a8⟩ := h
  refine ⟨a1, a2, by rw [hX.1.c1 9 (by omega)]; exact a3, by rw [hX.1.c1 9 (by omega)]; exact a4, by rw [hY.1.a2]; exact a5, by rw [hY.1.a2]; exact a6, ⟨a7.1, a7.2.1, fun p hp => ?_⟩, ⟨a8.1, a8.2.1, fun p hp => ?_⟩⟩
  · rw [hX.1.l 10 (by omega), hY.1.l5 _ (by omega)]; exact a7.2.2 p hp
  · rw [hX.1.l 14 (by omega), hY.1.l5 _ (by omega)]; exact a8.2.2 p hp
theorem Inv.sb {X Y : MM} {P N : Nat} (h : Inv X Y P N) : SB P N X Y := ⟨h.p7, h.n7, h.x0, h.x1, h.y0, h.y1, ⟨by omega, h.p7, fun p hp => by rw [Nat.zero_add]; exact h.nm.1 p hp⟩, ⟨by omega, h.n7, fun r hr => h.nm.2 r hr⟩⟩
def BL (P N i : Nat) (X Y : MM) : Prop := ∃ w, X.1 139 i = nI (10 * w) ∧ Y.1 4 (4 * i) = nI w ∧
  ((w = 0 ∧ ∃ q x y, q < P ∧ x ≤ 20 ∧ y ≤ 20 ∧ X.1 140 i = nI q ∧ X.1 141 i = nI x ∧ X.1 142 i = nI y ∧ Y.1 4 (4 * i + 1) = nI q ∧ Y.1 4 (4 * i + 2) = nI x ∧ Y.1 4 (4 * i + 3) = nI y) ∨
   (w = 1 ∧ ∃ q r t, q < P ∧ r < N ∧ t < P ∧ X.1 140 i = nI q ∧ X.1 141 i = nI r ∧ X.1 142 i = nI t ∧ Y.1 4 (4 * i + 1) = nI q ∧ Y.1 4 (4 * i + 2) = nI r ∧ Y.1 4 (4 * i + 3) = nI t) ∨
   ((w = 2 ∨ w = 4) ∧ ∃ q r, q < P ∧ r < N ∧ X.1 140 i = nI q ∧ X.1 141 i = nI r ∧ Y.1 4 (4 * i + 1) = nI q ∧ Y.1 4 (4 * i + 2) = nI r) ∨
   (w = 3 ∧ ∃ q, q < P ∧ X.1 140 i = nI q ∧ Y.1 4 (4 * i + 1) = nI q) ∨
   (w = 5 ∧ ∃ n, 1 ≤ n ∧ n ≤ 60 ∧ X.1 141 i = nI n ∧ Y.1 4 (4 * i + 1) = nI n))
def bF (k : Nat) (X X' Y Y' : MM) : Prop := (∀ a, 139 ≤ a → a ≤ 142 → ∀ i, i ≠ k → X'.1 a i = X.1 a i) ∧ X'.1 138 4 = X.1 138 4 ∧ (∀ j, j < 4 * k → Y'.1 4 j = Y.1 4 j) ∧ Y'.1 0 39 = Y.1 0 39
theorem bF.rf {k : Nat} {X Y : MM} : bF k X X Y Y := ⟨fun _ _ _ _ _ => rfl, rfl, fun _ _ => rfl, rfl⟩
theorem bF.tr {k : Nat} {X X1 X2 Y Y1 Y2 : MM} (a : bF k X X1 Y Y1) (b : bF k X1 X2 Y1 Y2) : bF k X X2 Y Y2 := ⟨fun c h1 h2 i hi => (b.1 c h1 h2 i hi).trans (a.1 c h1 h2 i hi), b.2.1.trans a.2.1, fun j hj => (b.2.2.1 j hj).trans (a.2.2.1 j hj), b.2.2.2.trans a.2.2.2⟩
theorem bF.n {k : Nat} {X X' Y Y' : MM} (hX : nX X X') (hY : nY Y Y') : bF k X X' Y Y' := ⟨fun a h1 h2 i _ => by rw [hX.row (by omega)], hX.1 _ _ (by omega), fun j _ => by rw [hY.row (by omega)], hY.1 _ _ (by omega)⟩
theorem bF.x {k a : Nat} {X X' Y Y' : MM} {v : Int32} (h : bF k X X' Y Y') (ha : 139 ≤ a ∧ a ≤ 142) : bF k X (mx_si X' a k v) Y Y' := h.tr ⟨fun c h1 h2 i hi => by
  show (if _ then _ else _) = _
  rw [if_neg (by omega)], si_nk (by omega), fun _ _ => rfl, rfl⟩
theorem bF.y {k j : Nat} {X X' Y Y' : MM} {v : Int32} (h : bF k X X' Y Y') (hj : 4 * k ≤ j) : bF k X X' Y (mx_si Y' 4 j v) := h.tr ⟨fun _ _ _ _ _ => rfl, rfl, fun i hi => si_nj (by omega), si_nk (by omega)⟩
theorem x_bare {T : TX} {s k : Nat} {X Y : MM} {c : Int32} (h : LX T s X Y) (h4 : X.1 4 s = 3) (hk : X.1 138 4 = nI k) (hk2 : k < 40) : fX1_readBare c X = some (true, mx_si (mx_si X 139 k c) 3 7 (nI (s + 1))) := by
  obtain ⟨a1, -⟩ := (h.xs (k := 139) (j := k) (v := c) (by omega)).adv (by rw [si_nk (by omega), h4]; decide) (by rw [si_nk (by omega), h4]; decide)
  rw [fX1_readBare, hk, pb_gd hk2 (by omega), nI_clamp (by omega), a1]
  rfl
theorem b_goes {T : TX} {s k q P N : Nat} {X Y : MM} (h : LX T s X Y) (h4 : X.1 4 s = 3) (hk : X.1 138 4 = nI k) (hk2 : k < 40) (hq : X.1 140 k = nI q) (hqP : q < P) (hP : P ≤ 7) : PW T X Y (fX1_readNumbers 0 0 20 X) (fX13_bookLine_167 (nI (4 * k)) (nI q) 0 Y) (fun X' Y' => BL P N k X' Y' ∧ bF k X X' Y Y') := by
  have hin : mx_in (nI k) 40 = true := pb_in hk2 (by omega)
  have hcl : (nI k).toNatClampNeg = k := nI_clamp (by omega)
  have i0 : mx_in (nI (4 * k)) 160 = true := pb_in (by omega) (by omega)
  have i1 : mx_in (nI (4 * k + 1)) 160 = true := pb_in (by omega) (by omega)
  have i2 : mx_in (nI (4 * k + 2)) 160 = true := pb_in (by omega) (by omega)
  have i3 : mx_in (nI (4 * k + 3)) 160 = true := pb_in (by omega) (by omega)
  have e1 : nI (4 * k) + (1 : Int32) = nI (4 * k + 1) := nI_add _ 1
  have e2 : nI (4 * k) + (2 : Int32) = nI (4 * k + 2) := nI_add _ 2
  have e3 : nI (4 * k) + (3 : Int32) = nI (4 * k + 3) := nI_add _ 3
  have g0 : (nI (4 * k)).toNatClampNeg = 4 * k := nI_clamp (by omega)
  have g1 : (nI (4 * k + 1)).toNatClampNeg = 4 * k + 1 := nI_clamp (by omega)
  have g2 : (nI (4 * k + 2)).toNatClampNeg = 4 * k + 2 := nI_clamp (by omega)
  have g3 : (nI (4 * k + 3)).toNatClampNeg = 4 * k + 3 := nI_clamp (by omega)
  obtain ⟨a1, Y1, a2, a3, h1⟩ := (h.xs (k := 139) (j := k) (v := 0) (by omega)).adv (by rw [si_nk (by omega), h4]; decide) (by rw [si_nk (by omega), h4]; decide)
  rw [fX1_readNumbers, x_bare h h4 hk hk2, fX13_bookLine_167, if_pos (by decide), a2]
  simp only [pb_bs]
  rw [i0, e1, i1, if_pos rfl, if_pos rfl, if_neg (by decide), if_pos trivial, g0, g1]
  have h2 := (h1.ys (k := 4) (j := 4 * k) (v := 0) (by omega)).ys (k := 4) (j := 4 * k + 1) (v := nI q) (by omega)
  have wX : WX X (mx_si (mx_si X 139 k 0) 3 7 (nI (s + 1))) := (WX.rf.si (by omega)).si (by omega)
  have wY : WY Y (mx_si (mx_si Y1 4 (4 * k) 0) 4 (4 * k + 1) (nI q)) := (a3.y.w.si (by omega)).si (by omega)
  have f2 : bF k X (mx_si (mx_si X 139 k 0) 3 7 (nI (s + 1))) Y (mx_si (mx_si Y1 4 (4 * k) 0) 4 (4 * k + 1) (nI q)) := (((bF.rf.x (by omega)).tr (bF.n (nX.rf.si (by omega)) a3.y)).y (by omega)).y (by omega)
  rcases p_num (lo := 0) (hi := 20) h2 (by omega) (by omega) with ⟨s3, X3, Y3, b1, b2, b3, b4, h3, v1, b5, b6, b7, b8⟩ | hno
  · have b1' : fX7_takeNumber 0 20 (mx_si (mx_si X 139 k 0) 3 7 (nI (s + 1))) = some (true, X3) := b1
    have b2' : fX13_takes 0 20 (mx_si (mx_si Y1 4 (4 * k) 0) 4 (4 * k + 1) (nI q)) = some (true, Y3) := b2
    rw [b1', b2']
    simp only [pb_bs]
    have x38 : X3.1 138 4 = nI k := by rw [b3.1 138 4 (by omega), si_nk (by omega), si_nk (by omega)]; exact hk
    rw [if_neg b_t, x38, hin, hcl, if_pos rfl, if_pos trivial, b7, fX13_bookLine_236, if_neg b_t, e2, i2, if_pos rfl, if_pos (by decide), if_pos rfl, g2, b8]
    have h4' := (h3.xs (k := 141) (j := k) (v := nI v1) (by omega)).ys (k := 4) (j := 4 * k + 2) (v := nI v1) (by omega)
    have wX3 := (wX.tr b3.w).si (k := 141) (j := k) (v := nI v1) (by omega)
    have wY3 := (wY.tr b4.w).si (k := 4) (j := 4 * k + 2) (v := nI v1) (by omega)
    have f3 := ((f2.tr (bF.n b3 b4)).x (a := 141) (v := nI v1) (by omega)).y (j := 4 * k + 2) (v := nI v1) (by omega)
    rcases p_num (lo := 0) (hi := 20) h4' (by omega) (by omega) with ⟨s5, X5, Y5, c1, c2, c3, c4, h5, v2, c5, c6, c7, c8⟩ | hno
    · have c1' : fX7_takeNumber 0 20 (mx_si X3 141 k (nI v1)) = some (true, X5) := c1
      have c2' : fX13_takes 0 20 (mx_si Y3 4 (4 * k + 2) (nI v1)) = some (true, Y5) := c2
      rw [c1', c2']
      simp only [pb_bs]
      have x58 : X5.1 138 4 = nI k := by rw [c3.1 138 4 (by omega), si_nk (by omega)]; exact x38
      rw [if_neg b_t, x58, hin, hcl, if_pos rfl, c7, fX13_bookLine_291, e3, i3, if_pos rfl, g3, c8]
      left
      refine ⟨s5, _, _, rfl, rfl, (wX3.tr c3.w).si (by omega), (wY3.tr c4.w).si (by omega), (h5.xs (by omega)).ys (by omega), ?_, ((f3.tr (bF.n c3 c4)).x (by omega)).y (by omega)⟩
      refine ⟨0, ?_, ?_, Or.inl ⟨rfl, q, v1, v2, hqP, b6, c6, ?_, ?_, si_eq, ?_, ?_, si_eq⟩⟩
      · rw [si_nk (by omega), c3.1 _ _ (by omega), si_nk (by omega), b3.1 _ _ (by omega), si_nk (by omega), si_eq]; rfl
      · rw [si_nj (by omega), c4.1 _ _ (by omega), si_nj (by omega), b4.1 _ _ (by omega), si_nj (by omega), si_eq]; rfl
      · rw [si_nk (by omega), c3.1 _ _ (by omega), si_nk (by omega), b3.1 _ _ (by omega), si_nk (by omega), si_nk (by omega)]; exact hq
      · rw [si_nk (by omega), c3.1 _ _ (by omega), si_eq]
      · rw [si_nj (by omega), c4.1 _ _ (by omega), si_nj (by omega), b4.1 _ _ (by omega), si_eq]
      · rw [si_nj (by omega), c4.1 _ _ (by omega), si_eq]
    · right
      obtain ⟨X', Y', c1, c2, c3, c4, c5⟩ := hno
      have c1' : fX7_takeNumber 0 20 (mx_si X3 141 k (nI v1)) = some (false, X') := c1
      have c2' : fX13_takes 0 20 (mx_si Y3 4 (4 * k + 2) (nI v1)) = some (false, Y') := c2
      rw [c1', c2']
      simp only [pb_bs]
      rw [if_pos b_f, fX13_bookLine_291, e3, i3, if_pos rfl, g3]
      exact ⟨X', _, rfl, rfl, wX3.tr c3.w, (wY3.tr c4.w).si (by omega), by rw [si_nk (by omega)]; exact c5.1, by rw [si_nk (by omega)]; exact c5.2⟩
  · right
    obtain ⟨X', Y', c1, c2, c3, c4, c5⟩ := hno
    have c1' : fX7_takeNumber 0 20 (mx_si (mx_si X 139 k 0) 3 7 (nI (s + 1))) = some (false, X') := c1
    have c2' : fX13_takes 0 20 (mx_si (mx_si Y1 4 (4 * k) 0) 4 (4 * k + 1) (nI q)) = some (false, Y') := c2
    rw [c1', c2']
    simp only [pb_bs]
    rw [if_pos b_f, fX13_bookLine_236, if_pos b_f]
    exact ⟨X', Y', rfl, rfl, wX.tr c3.w, wY.tr c4.w, c5⟩
theorem b_ring {T : TX} {s k q w P N : Nat} {X Y : MM} (h : LX T s X Y) (h4 : X.1 4 s = 3) (hS : SB P N X Y) (hk : X.1 138 4 = nI k) (hk2 : k < 40) (hq : X.1 140 k = nI q) (hqP : q < P) (hw : w = 1 ∨ w = 2 ∨ w = 4) : PW T X Y (fX1_readRingAct (nI (10 * w)) X) (fX13_bookLine_167 (nI (4 * k)) (nI q) (nI w) Y) (fun X' Y' => BL P N k X' Y' ∧ bF k X X' Y Y') := by
  have hP := hS.1
  have hN := hS.2.1
  have hin : mx_in (nI k) 40 = true := pb_in hk2 (by omega)
  have hcl : (nI k).toNatClampNeg = k := nI_clamp (by omega)
  have i0 : mx_in (nI (4 * k)) 160 = true := pb_in (by omega) (by omega)
  have i1 : mx_in (nI (4 * k + 1)) 160 = true := pb_in (by omega) (by omega)
  have i2 : mx_in (nI (4 * k + 2)) 160 = true := pb_in (by omega) (by omega)
  have i3 : mx_in (nI (4 * k + 3)) 160 = true := pb_in (by omega) (by omega)
  have e1 : nI (4 * k) + (1 : Int32) = nI (4 * k + 1) := nI_add _ 1
  have e2 : nI (4 * k) + (2 : Int32) = nI (4 * k + 2) := nI_add _ 2
  have e3 : nI (4 * k) + (3 : Int32) = nI (4 * k + 3) := nI_add _ 3
  have g0 : (nI (4 * k)).toNatClampNeg = 4 * k := nI_clamp (by omega)
  have g1 : (nI (4 * k + 1)).toNatClampNeg = 4 * k + 1 := nI_clamp (by omega)
  have g2 : (nI (4 * k + 2)).toNatClampNeg = 4 * k + 2 := nI_clamp (by omega)
  have g3 : (nI (4 * k + 3)).toNatClampNeg = 4 * k + 3 := nI_clamp (by omega)
  have w3 : ¬ nI w = (3 : Int32) := by rcases hw with rfl | rfl | rfl <;> decide
  have w0 : ¬ nI w = (0 : Int32) := by rcases hw with rfl | rfl | rfl <;> decide
  have w1 : (nI w ≤ (1 : Int32)) = (w = 1) := by rcases hw with rfl | rfl | rfl <;> decide
  have w10 : (nI (10 * w) = (10 : Int32)) = (w = 1) := by rcases hw with rfl | rfl | rfl <;> decide
  obtain ⟨a1, Y1, a2, a3, h1⟩ := (h.xs (k := 139) (j := k) (v := nI (10 * w)) (by omega)).adv (by rw [si_nk (by omega), h4]; decide) (by rw [si_nk (by omega), h4]; decide)
  rw [fX1_readRingAct, x_bare h h4 hk hk2, fX13_bookLine_167, if_pos (nI_pos' (by omega)), a2]
  simp only [pb_bs, w10]
  rw [i0, e1, i1, if_pos rfl, if_pos rfl, if_neg w3, if_neg w0, g0, g1]
  have h2 := (h1.ys (k := 4) (j := 4 * k) (v := nI w) (by omega)).ys (k := 4) (j := 4 * k + 1) (v := nI q) (by omega)
  have wX : WX X (mx_si (mx_si X 139 k (nI (10 * w))) 3 7 (nI (s + 1))) := (WX.rf.si (by omega)).si (by omega)
  have wY : WY Y (mx_si (mx_si Y1 4 (4 * k) (nI w)) 4 (4 * k + 1) (nI q)) := (a3.y.w.si (by omega)).si (by omega)
  have f2 : bF k X (mx_si (mx_si X 139 k (nI (10 * w))) 3 7 (nI (s + 1))) Y (mx_si (mx_si Y1 4 (4 * k) (nI w)) 4 (4 * k + 1) (nI q)) := (((bF.rf.x (by omega)).tr (bF.n (nX.rf.si (by omega)) a3.y)).y (by omega)).y (by omega)
  have hS2 := hS.w wX wY
  rw [p_name h2, hS2.2.2.2.2.2.1]
  simp only [pb_bs]
  rw [x_rNamed hS2.2.2.2.1 hN]
  simp only [pb_bs]
  rcases p_named h2 hS2.2.2.2.2.2.2.2 with ⟨s3, X3, Y3, b1, b2, b3, b4, h3, r, b5, b6, b7⟩ | hno
  · have b2' : fX13_takesName 7 (nI N) (mx_si (mx_si Y1 4 (4 * k) (nI w)) 4 (4 * k + 1) (nI q)) = some (true, Y3) := b2
    rw [b1, b2']
    simp only [pb_bs]
    have x38 : X3.1 138 4 = nI k := by rw [b3.1 138 4 (by omega), si_nk (by omega), si_nk (by omega)]; exact hk
    rw [if_neg b_t, x38, hin, hcl, if_pos rfl, b6, fX13_bookLine_236, if_neg b_t, e2, i2, if_pos rfl, g2, b7]
    simp only [w1]
    have h4' := (h3.xs (k := 141) (j := k) (v := nI r) (by omega)).ys (k := 4) (j := 4 * k + 2) (v := nI r) (by omega)
    have wX3 := (wX.tr b3.w).si (k := 141) (j := k) (v := nI r) (by omega)
    have wY3 := (wY.tr b4.w).si (k := 4) (j := 4 * k + 2) (v := nI r) (by omega)
    have f3 := ((f2.tr (bF.n b3 b4)).x (a := 141) (v := nI r) (by omega)).y (j := 4 * k + 2) (v := nI r) (by omega)
    by_cases hw1 : w = 1
    · rw [if_pos hw1, if_pos hw1, if_neg w0]
      have hS4 := hS.w wX3 wY3
      rw [p_name h4', hS4.2.2.2.2.1]
      simp only [pb_bs]
      rw [x_pNamed hS4.2.2.1 hP]
      simp only [pb_bs]
      rcases p_named h4' hS4.2.2.2.2.2.2.1 with ⟨s5, X5, Y5, c1, c2, c3, c4, h5, t, c5, c6, c7⟩ | hno
      · have c2' : fX13_takesName 0 (nI P) (mx_si Y3 4 (4 * k + 2) (nI r)) = some (true, Y5) := c2
        rw [c1, c2']
        simp only [pb_bs]
        have x58 : X5.1 138 4 = nI k := by rw [c3.1 138 4 (by omega), si_nk (by omega)]; exact x38
        rw [if_neg b_t, x58, hin, hcl, if_pos rfl, c6, fX13_bookLine_291, e3, i3, if_pos rfl, g3, c7]
        left
        refine ⟨s5, _, _, rfl, rfl, (wX3.tr c3.w).si (by omega), (wY3.tr c4.w).si (by omega), (h5.xs (by omega)).ys (by omega), ?_, ((f3.tr (bF.n c3 c4)).x (by omega)).y (by omega)⟩
        refine ⟨w, ?_, ?_, Or.inr (Or.inl ⟨hw1, q, r, t, hqP, b5, c5, ?_, ?_, si_eq, ?_, ?_, si_eq⟩)⟩
        · rw [si_nk (by omega), c3.1 _ _ (by omega), si_nk (by omega), b3.1 _ _ (by omega), si_nk (by omega), si_eq]
        · rw [si_nj (by omega), c4.1 _ _ (by omega), si_nj (by omega), b4.1 _ _ (by omega), si_nj (by omega), si_eq]
        · rw [si_nk (by omega), c3.1 _ _ (by omega), si_nk (by omega), b3.1 _ _ (by omega), si_nk (by omega), si_nk (by omega)]; exact hq
        · rw [si_nk (by omega), c3.1 _ _ (by omega), si_eq]
        · rw [si_nj (by omega), c4.1 _ _ (by omega), si_nj (by omega), b4.1 _ _ (by omega), si_eq]
        · rw [si_nj (by omega), c4.1 _ _ (by omega), si_eq]
      · right
        obtain ⟨X', Y', c1, c2, c3, c4, c5⟩ := hno
        have c2' : fX13_takesName 0 (nI P) (mx_si Y3 4 (4 * k + 2) (nI r)) = some (false, Y') := c2
        rw [c1, c2']
        simp only [pb_bs]
        rw [if_pos b_f, fX13_bookLine_291, e3, i3, if_pos rfl, g3]
        exact ⟨X', _, rfl, rfl, wX3.tr c3.w, (wY3.tr c4.w).si (by omega), by rw [si_nk (by omega)]; exact c5.1, by rw [si_nk (by omega)]; exact c5.2⟩
    · rw [if_neg hw1, if_neg hw1]
      left
      refine ⟨s3, _, _, rfl, rfl, wX3, wY3, h4', ?_, f3⟩
      refine ⟨w, ?_, ?_, Or.inr (Or.inr (Or.inl ⟨by omega, q, r, hqP, b5, ?_, si_eq, ?_, si_eq⟩))⟩
      · rw [si_nk (by omega), b3.1 _ _ (by omega), si_nk (by omega), si_eq]
      · rw [si_nj (by omega), b4.1 _ _ (by omega), si_nj (by omega), si_eq]
      · rw [si_nk (by omega), b3.1 _ _ (by omega), si_nk (by omega), si_nk (by omega)]; exact hq
      · rw [si_nj (by omega), b4.1 _ _ (by omega), si_eq]
  · right
    obtain ⟨X', Y', c1, c2, c3, c4, c5⟩ := hno
    have c2' : fX13_takesName 7 (nI N) (mx_si (mx_si Y1 4 (4 * k) (nI w)) 4 (4 * k + 1) (nI q)) = some (false, Y') := c2
    rw [c1, c2']
    simp only [pb_bs]
    rw [if_pos b_f, fX13_bookLine_236, if_pos b_f]
    exact ⟨X', Y', rfl, rfl, wX.tr c3.w, wY.tr c4.w, c5⟩
theorem b_doff {T : TX} {s k q P N : Nat} {X Y : MM} (h : LX T s X Y) (h4 : X.1 4 s = 3) (hk : X.1 138 4 = nI k) (hk2 : k < 40) (hq : X.1 140 k = nI q) (hqP : q < P) : PW T X Y (fX1_readBare 30 X) (fX13_bookLine_167 (nI (4 * k)) (nI q) 3 Y) (fun X' Y' => BL P N k X' Y' ∧ bF k X X' Y Y') := by
  have i0 : mx_in (nI (4 * k)) 160 = true := pb_in (by omega) (by omega)
  have i1 : mx_in (nI (4 * k + 1)) 160 = true := pb_in (by omega) (by omega)
  have e1 : nI (4 * k) + (1 : Int32) = nI (4 * k + 1) := nI_add _ 1
  have g0 : (nI (4 * k)).toNatClampNeg = 4 * k := nI_clamp (by omega)
  have g1 : (nI (4 * k + 1)).toNatClampNeg = 4 * k + 1 := nI_clamp (by omega)
  obtain ⟨a1, Y1, a2, a3, h1⟩ := (h.xs (k := 139) (j := k) (v := 30) (by omega)).adv (by rw [si_nk (by omega), h4]; decide) (by rw [si_nk (by omega), h4]; decide)
  rw [x_bare h h4 hk hk2, fX13_bookLine_167, if_pos (by decide), a2]
  simp only [pb_bs]
  rw [i0, e1, i1, if_pos rfl, if_pos rfl, if_pos trivial, g0, g1]
  left
  refine ⟨s + 1, _, _, rfl, rfl, (WX.rf.si (by omega)).si (by omega), (a3.y.w.si (by omega)).si (by omega), (h1.ys (by omega)).ys (by omega), ?_, (((bF.rf.x (by omega)).tr (bF.n (nX.rf.si (by omega)) a3.y)).y (by omega)).y (by omega)⟩
  refine ⟨3, ?_, ?_, Or.inr (Or.inr (Or.inr (Or.inl ⟨rfl, q, hqP, ?_, si_eq⟩)))⟩
  · rw [si_nk (by omega), si_eq]; rfl
  · rw [si_nj (by omega), si_eq]; rfl
  · rw [si_nk (by omega), si_nk (by omega)]; exact hq
theorem b_day {T : TX} {s k P N : Nat} {X Y : MM} (h : LX T s X Y) (h4 : X.1 4 s = 3) (hk : X.1 138 4 = nI k) (hk2 : k < 40) (hy : Y.1 0 39 = nI k) : PW T X Y (fX1_readNumbers 50 1 60 X) (fX13_bookLine_35 (nI (4 * k)) true Y) (fun X' Y' => BL P N k X' Y' ∧ bF k X X' Y Y') := by
  have hin : mx_in (nI k) 40 = true := pb_in hk2 (by omega)
  have hcl : (nI k).toNatClampNeg = k := nI_clamp (by omega)
  have i0 : mx_in (nI (4 * k)) 160 = true := pb_in (by omega) (by omega)
  have i1 : mx_in (nI (4 * k + 1)) 160 = true := pb_in (by omega) (by omega)
  have e1 : nI (4 * k) + (1 : Int32) = nI (4 * k + 1) := nI_add _ 1
  have g0 : (nI (4 * k)).toNatClampNeg = 4 * k := nI_clamp (by omega)
  have g1 : (nI (4 * k + 1)).toNatClampNeg = 4 * k + 1 := nI_clamp (by omega)
  have n40 : ¬ nI k = (40 : Int32) := fun q => by
    have := (nI_eq (a := k) (b := 40) (by omega) (by omega)).mp q
    omega
  obtain ⟨a1, Y1, a2, a3, h1⟩ := (h.xs (k := 139) (j := k) (v := 50) (by omega)).adv (by rw [si_nk (by omega), h4]; decide) (by rw [si_nk (by omega), h4]; decide)
  rw [fX1_readNumbers, x_bare h h4 hk hk2, fX13_bookLine_35, hy, if_neg n40, a2]
  simp only [pb_bs]
  rw [i0, if_pos rfl, if_neg b_t, g0]
  have h2 := h1.ys (k := 4) (j := 4 * k) (v := 5) (by omega)
  have wX : WX X (mx_si (mx_si X 139 k 50) 3 7 (nI (s + 1))) := (WX.rf.si (by omega)).si (by omega)
  have wY : WY Y (mx_si Y1 4 (4 * k) 5) := a3.y.w.si (by omega)
  have f2 : bF k X (mx_si (mx_si X 139 k 50) 3 7 (nI (s + 1))) Y (mx_si Y1 4 (4 * k) 5) := ((bF.rf.x (by omega)).tr (bF.n (nX.rf.si (by omega)) a3.y)).y (by omega)
  rcases p_num (lo := 1) (hi := 60) h2 (by omega) (by omega) with ⟨s3, X3, Y3, b1, b2, b3, b4, h3, v1, b5, b6, b7, b8⟩ | hno
  · have b1' : fX7_takeNumber 1 60 (mx_si (mx_si X 139 k 50) 3 7 (nI (s + 1))) = some (true, X3) := b1
    have b2' : fX13_takes 1 60 (mx_si Y1 4 (4 * k) 5) = some (true, Y3) := b2
    rw [b1', b2']
    simp only [pb_bs]
    have x38 : X3.1 138 4 = nI k := by rw [b3.1 138 4 (by omega), si_nk (by omega), si_nk (by omega)]; exact hk
    rw [if_neg b_t, x38, hin, hcl, if_pos rfl, if_neg (by decide), b7, if_neg b_t, e1, i1, if_pos rfl, g1, b8]
    left
    refine ⟨s3, _, _, rfl, rfl, (wX.tr b3.w).si (by omega), (wY.tr b4.w).si (by omega), (h3.xs (by omega)).ys (by omega), ?_, ((f2.tr (bF.n b3 b4)).x (by omega)).y (by omega)⟩
    refine ⟨5, ?_, ?_, Or.inr (Or.inr (Or.inr (Or.inr ⟨rfl, v1, b5, b6, si_eq, si_eq⟩)))⟩
    · rw [si_nk (by omega), b3.1 _ _ (by omega), si_nk (by omega), si_eq]; rfl
    · rw [si_nj (by omega), b4.1 _ _ (by omega), si_eq]; rfl
  · right
    obtain ⟨X', Y', c1, c2, c3, c4, c5⟩ := hno
    have c1' : fX7_takeNumber 1 60 (mx_si (mx_si X 139 k 50) 3 7 (nI (s + 1))) = some (false, X') := c1
    have c2' : fX13_takes 1 60 (mx_si Y1 4 (4 * k) 5) = some (false, Y') := c2
    rw [c1', c2']
    simp only [pb_bs]
    rw [if_pos b_f, if_pos b_f]
    exact ⟨X', Y', rfl, rfl, wX.tr c3.w, wY.tr c4.w, c5⟩
