/-! the three readers' start and end -/
def tby (X : MM) (i : Nat) : Nat := (X.1 2 i &&& (255 : Int32)).toNatClampNeg
theorem tby_sp (X : MM) (i : Nat) : X.1 2 i &&& (255 : Int32) = nI (tby X i) ∧ tby X i < 256 := by
  obtain ⟨j, hj, e⟩ := pk_andE (X.1 2 i) (m := 255) 8 (by decide)
  have : tby X i = j := by unfold tby; rw [e, nI_clamp (by omega)]
  rw [this]
  exact ⟨e, hj⟩
theorem tx_start {X Y : MM} {P N mo : Nat} (h : Inv X Y P N) (hm : mo ≤ 1000) : ∃ L, L ≤ 940 ∧ Y.1 0 2 = nI L ∧ ∃ T X1, fX7_open (nI mo) X = some X1 ∧ WX X X1 ∧ opF X X1 ∧ ∀ Yb : MM, Yb.1 0 3 = nI L → Yb.1 0 5 = nI mo → Yb.1 1 = Y.1 1 → Yb.1 0 4 = nI 0 → Yb.1 0 15 = 0 → Yb.2.1 6 = Y.2.1 6 → ∃ Y', fX13_next Yb = some Y' ∧ nN Yb Y' ∧ LX T 0 X1 Y' := by
  obtain ⟨L, a1, a2, a3, a4⟩ := h.tp
  have hT : txX X (tby X) L := ⟨a2, a1, fun i _ => tby_sp X i⟩
  obtain ⟨n, X1, b1, b2, b3, b4, b5, b6, b7, b8, b9⟩ := x_open hT hm
  refine ⟨L, a1, a3, (tby X, L, mo, n), X1, b1, ?_, b7, ?_⟩
  · exact ⟨⟨fun k hk => b7.1 k (by omega), by rw [b7.1 143 (by omega)], fun k hk => b7.2.1 k (by omega), fun k hk => b7.2.2 k (by omega), fun q i hi => by rw [b7.2.2 135 (by omega)]; exact q i hi⟩, b7.1 149 (by omega), fun j _ => by rw [b7.1 138 (by omega)], b7.1 1 (by omega), b7.1 2 (by omega)⟩
  · intro Yb y3 y5 y1 y4 y15 y6
    have hy : yT Yb (tby X) L mo := ⟨y3, y5, a1, hm, fun i hi => by rw [y1, ← a4 i hi]; exact tby_sp X i⟩
    obtain ⟨Y', c1, c2, c3, c4⟩ := m_next (i := 0) hy (by omega) y4
    exact ⟨Y', c1, c2, hy.fr c2, b4, b3, b8, b9, fun k hk => by rw [c2.2 6 k (by omega), y6]; exact h.rf.2.2 k hk, b2, b5, c3, ⟨b6, by rw [c2.1 0 15 (by omega)]; exact y15⟩, TK_of (b8 0 b2) c4 (skp_sp (iP_le 0)).2.1 (fun i hi => (tby_sp X i).2)⟩
def VY (Y Y' : MM) : Prop := yKq Y Y' ∧ (∀ j, j = 30 ∨ j = 31 ∨ j = 32 ∨ j = 41 → Y'.1 0 j = Y.1 0 j) ∧ Y'.1 16 = Y.1 16
theorem VY.w {Y Y1 Y2 : MM} (a : VY Y Y1) (b : WY Y1 Y2) : VY Y Y2 := ⟨a.1.tr b.1, fun j h => (b.2.1 j (by omega)).trans (a.2.1 j h), b.2.2.1.trans a.2.2⟩
/-- the reference's tape is taken -/
theorem m_taken {Y : MM} {mo : Int32} : ∃ Y', fX13_taken mo (mx_si Y 0 0 (0 : Int32)) = some Y' ∧ VY Y Y' ∧ Y'.1 0 2 = 0 ∧ Y'.1 0 3 = Y.1 0 2 ∧ Y'.1 0 4 = nI 0 ∧ Y'.1 0 5 = mo ∧ Y'.1 1 = Y.1 1 ∧ Y'.2 = Y.2 := by
  refine ⟨_, rfl, ⟨((((yKq.rf.si (by omega)).si (by omega)).si (by omega)).si (by omega)).si (by omega), fun j hj => ?_, ?_⟩, ?_, ?_, ?_, ?_, ?_, rfl⟩
  · rw [si_nj (by omega), si_nj (by omega), si_nj (by omega), si_nj (by omega), si_nj (by omega)]
  · rw [si_row (by omega), si_row (by omega), si_row (by omega), si_row (by omega), si_row (by omega)]
  · rw [si_nj (by omega), si_nj (by omega), si_eq]
  · rw [si_nj (by omega), si_nj (by omega), si_nj (by omega), si_eq, si_nj (by omega)]
  · rw [si_nj (by omega), si_eq]; rfl
  · rw [si_eq]
  · rw [si_row (by omega), si_row (by omega), si_row (by omega), si_row (by omega), si_row (by omega)]
/-- scratch alone changed, the tape is empty, the fault is told -/
theorem tx_end {X X' Y Y' : MM} {P N : Nat} (h : Inv X Y P N) (hX : WX X X') (hY : VY Y Y') (h2 : Y'.1 0 2 = 0) (ft : X'.1 3 10 = Y'.1 0 15) : Inv (mx_si (mx_si X' 1 1 (0 : Int32)) 0 18 ((mx_si X' 1 1 (0 : Int32)).1 3 10)) Y' P N := by
  refine Inv.gen ((hX.1.si (by omega)).si (by omega)) hY.1 h ?_ ?_ ?_ ?_
  · exact ⟨0, by omega, by rw [si_nk (by omega), si_eq]; rfl, h2, fun i hi => absurd hi (by omega)⟩
  · rw [si_eq, si_nk (by omega)]; exact ft
  · exact rFi_fr (by rw [si_row (by omega), si_row (by omega)]; exact hX.2.1) (hY.2.1 32 (by omega)) (hY.2.1 30 (by omega)) (hY.2.1 31 (by omega)) h.fi
  · exact rBk_fr (fun j hj => by rw [si_nk (by omega), si_nk (by omega)]; exact hX.2.2.1 j hj) (hY.2.1 41 (by omega)) hY.2.2 h.bk
theorem Inv.new2 {X X' Y Y' : MM} {P N P' N' : Nat} (h : Inv X Y P N) (hA : rAll 9 29 130 X' (Y'.1 2) (Y'.2.1 5) P' N') (x1 : ∀ k, k = 144 ∨ k = 145 ∨ k = 149 ∨ 152 ≤ k → X'.1 k = X.1 k) (x143 : X'.1 143 1 = X.1 143 1) (x138 : ∀ j, 5 ≤ j → X'.1 138 j = X.1 138 j) (x0 : X'.1 56 1 = 0) (x2 : ∀ k, 157 ≤ k → X'.2.1 k = X.2.1 k) (x3 : ∀ k, k = 57 ∨ 152 ≤ k → X'.2.2 k = X.2.2 k) (xw : ∀ i, i < 40 → X'.2.2 131 i < 24 ∧ X'.2.2 135 i < 24) (y1 : ∀ a, a = 10 ∨ a = 12 ∨ a = 15 ∨ a = 16 ∨ a = 19 ∨ a = 21 → Y'.1 a = Y.1 a) (y2 : ∀ j, j = 26 ∨ (29 ≤ j ∧ j ≤ 32) ∨ j = 37 ∨ j = 41 → Y'.1 0 j = Y.1 0 j) (y23 : Y'.1 0 23 = 0) (y3 : ∀ k, k = 6 ∨ k = 20 → Y'.2.1 k = Y.2.1 k) (tp : rTp X' Y') (ft : X'.1 0 18 = Y'.1 0 15) : Inv X' Y' P' N' := by
  obtain ⟨h1, h2, h3, h4, h5, h6⟩ := hA
  refine ⟨h1, h2, h3, h4, ?_, h6, h5, tp, ft, ?_, ?_, ?_, ?_, ?_, ?_⟩
  · obtain ⟨U, π, -, -, -, a4, a5, -⟩ := h.pa
    exact ⟨0, π, by omega, x0, y23, fun i hi => by rw [x3 57 (by omega)]; exact a4 i hi, a5, fun i hi => absurd hi (by omega)⟩
  · exact rIm_fr (fun j hj => x1 j (by omega)) x2 (fun j hj => x3 j (by omega)) (y1 19 (by omega)) (y3 20 (by omega)) (y1 21 (by omega)) h.im
  · exact rPl_fr x143 (x1 _ (by omega)) (x1 _ (by omega)) (y2 26 (by omega)) (y1 10 (by omega)) (y2 29 (by omega)) (y1 12 (by omega)) h.pl
  · exact rFi_fr (x1 _ (by omega)) (y2 32 (by omega)) (y2 30 (by omega)) (y2 31 (by omega)) h.fi
  · exact rNt_fr (x1 _ (by omega)) (x1 _ (by omega)) (y2 37 (by omega)) (y1 15 (by omega)) h.nt
  · exact rBk_fr x138 (y2 41 (by omega)) (y1 16 (by omega)) h.bk
  · obtain ⟨a, b, c⟩ := h.rf
    refine ⟨fun k hk => ?_, fun i hi => ?_, fun k hk => ?_⟩
    · rw [x3 154 (by omega), x3 155 (by omega), x3 156 (by omega)]; exact a k hk
    · rw [x3 178 (by omega), x3 201 (by omega)]
      exact ⟨(xw i hi).1, (xw i hi).2, (b i hi).2.2⟩
    · rw [y3 6 (by omega)]; exact c k hk
/-! the class: a new state -/
theorem x_begin {X : MM} {S H : Nat → Int32} {P N : Nat} (hP : P ≤ 7) (hN : N ≤ 7) (h0 : X.1 9 0 = nI P) (h1 : X.1 9 1 = nI N) (hL : rLd X H P N) (s0 : S 54 = 0 ∧ S 55 = 0 ∧ S 56 = 0) (s3 : S 3 = H 3) (sp : ∀ p, p < P → S (57 + p) = H (5 + p) ∧ S (64 + p) = H (12 + p) ∧ S (71 + p) = H 3) (sr : ∀ r, r < N → S (78 + r) = H (40 + r) ∧ S (85 + r) = 0 ∧ S (92 + r) = 0) : ∃ X', fX9_begin X = some X' ∧ xFr 29 X X' ∧ rSt 29 X' S P N := by
  obtain ⟨X1, a1, a2, a3, a4⟩ := loop_rel (fun n k Z => fX9_begin_2 n (nI k) Z) P (fun k Z => (∀ a, a ≠ 30 → a ≠ 31 → Z.1 a = X.1 a) ∧ Z.2 = X.2 ∧ ∀ p, p < k → Z.1 30 p = X.1 11 p ∧ Z.1 31 p = X.1 12 p) (fun Z => fX9_begin_51 mx_fu (0 : Int32) Z)
    (fun n Z hR => by
      show fX9_begin_2 (n + 1) (nI P) Z = _
      rw [fX9_begin_2, hR.1 9 (by omega) (by omega), h0, if_pos (nI_le (by omega) (by omega))])
    (fun n k Z hk hR => by
      obtain ⟨r1, r2, r3⟩ := hR
      refine ⟨mx_si (mx_si Z 30 k (X.1 11 k)) 31 k (X.1 12 k), ?_, fun a q1 q2 => ?_, r2, fun p hp => ?_⟩
      · show fX9_begin_2 (n + 1) (nI k) Z = fX9_begin_2 n (nI (k + 1)) _
        rw [fX9_begin_2, r1 9 (by omega) (by omega), h0, if_neg (nI_ge hk (by omega)), pb_gd (by omega) (by omega), pb_gd (by omega) (by omega), pb_gd (by omega) (by omega), pb_gd (by omega) (by omega), nI_clamp (by omega), nI_1, si_nk (by omega), r1 11 (by omega) (by omega), r1 12 (by omega) (by omega)]
      · rw [si_row q2, si_row q1]; exact r1 a q1 q2
      · rcases Nat.lt_or_ge p k with q | q
        · rw [si_nk (by omega), si_nj (by omega), si_nj (by omega), si_nk (by omega)]; exact r3 p q
        · have : p = k := by omega
          subst this
          rw [si_nk (by omega), si_eq, si_eq]
          exact ⟨rfl, rfl⟩) P 0 mx_fu X (by omega) (by unfold mx_fu; omega) ⟨fun _ _ _ => rfl, rfl, fun p hp => absurd hp (by omega)⟩
  obtain ⟨X2, b1, b2, b3, b4⟩ := loop_rel (fun n k Z => fX9_begin_51 n (nI k) Z) N (fun k Z => (∀ a, a ≠ 33 → a ≠ 34 → a ≠ 37 → Z.1 a = X1.1 a) ∧ Z.2 = X1.2 ∧ ∀ p, p < k → Z.1 33 p = X1.1 17 p ∧ Z.1 34 p = 0 ∧ Z.1 37 p = 0) (fun Z => (fX9_rest 29 (mx_si (mx_si (mx_si Z 29 9 (0 : Int32)) 29 10 (0 : Int32)) 29 11 (0 : Int32))).bind fun q113 => some q113)
    (fun n Z hR => by
      show fX9_begin_51 (n + 1) (nI N) Z = _
      rw [fX9_begin_51, hR.1 9 (by omega) (by omega) (by omega), a2 9 (by omega) (by omega), h1, if_pos (nI_le (by omega) (by omega))])
    (fun n k Z hk hR => by
      obtain ⟨r1, r2, r3⟩ := hR
      refine ⟨mx_si (mx_si (mx_si Z 33 k (X1.1 17 k)) 34 k 0) 37 k 0, ?_, fun a q1 q2 q3 => ?_, r2, fun p hp => ?_⟩
      · show fX9_begin_51 (n + 1) (nI k) Z = fX9_begin_51 n (nI (k + 1)) _
        rw [fX9_begin_51, r1 9 (by omega) (by omega) (by omega), a2 9 (by omega) (by omega), h1, if_neg (nI_ge hk (by omega)), pb_gd (by omega) (by omega), pb_gd (by omega) (by omega), pb_gd (by omega) (by omega), pb_gd (by omega) (by omega), nI_clamp (by omega), nI_1, r1 17 (by omega) (by omega) (by omega)]
      · rw [si_row q3, si_row q2, si_row q1]; exact r1 a q1 q2 q3
      · rcases Nat.lt_or_ge p k with q | q
        · rw [si_nk (by omega), si_nk (by omega), si_nj (by omega), si_nk (by omega), si_nj (by omega), si_nk (by omega), si_nj (by omega), si_nk (by omega), si_nk (by omega)]; exact r3 p q
        · have : p = k := by omega
          subst this
          rw [si_nk (by omega), si_nk (by omega), si_eq, si_nk (by omega), si_eq, si_eq]
          exact ⟨rfl, rfl, rfl⟩) N 0 mx_fu X1 (by omega) (by unfold mx_fu; omega) ⟨fun _ _ _ _ => rfl, rfl, fun p hp => absurd hp (by omega)⟩
  have e : ∀ a, a < 29 ∨ 37 < a → (mx_si (mx_si (mx_si X2 29 9 (0 : Int32)) 29 10 (0 : Int32)) 29 11 (0 : Int32)).1 a = X.1 a := fun a ha => by
    rw [si_row (by omega), si_row (by omega), si_row (by omega), b2 a (by omega) (by omega) (by omega), a2 a (by omega) (by omega)]
  obtain ⟨X3, c1, c2, c3, c4⟩ := x_rest (o := 29) (X := mx_si (mx_si (mx_si X2 29 9 (0 : Int32)) 29 10 (0 : Int32)) 29 11 (0 : Int32)) (S := S) (P := P) (N := N) (by omega) hP (by rw [e 9 (by omega)]; exact h0) (by rw [e 9 (by omega), s3]; exact hL.2.2.2.1) ⟨by rw [si_nj (by omega), si_nj (by omega), si_eq, s0.1], by rw [si_nj (by omega), si_eq, s0.2.1], by rw [si_eq, s0.2.2], fun p hp => by
      rw [si_nk (by omega), si_nk (by omega), si_nk (by omega), si_nk (by omega), si_nk (by omega), si_nk (by omega), b2 _ (by omega) (by omega) (by omega), b2 _ (by omega) (by omega) (by omega), (sp p hp).1, (sp p hp).2.1]
      show X1.1 30 p = _ ∧ X1.1 31 p = _
      rw [(a4 p hp).1, (a4 p hp).2]
      exact ⟨(hL.2.2.2.2.2.1 p hp).1, (hL.2.2.2.2.2.1 p hp).2.1⟩, fun r hr => by
      rw [si_nk (by omega), si_nk (by omega), si_nk (by omega), si_nk (by omega), si_nk (by omega), si_nk (by omega), (sr r hr).1, (sr r hr).2.1, (sr r hr).2.2]
      refine ⟨(b4 r hr).2.1, (b4 r hr).2.2, fun _ => ?_, fun q => absurd q (by decide)⟩
      rw [si_nk (by omega), si_nk (by omega), si_nk (by omega)]
      show X2.1 33 r = _
      rw [(b4 r hr).1, a2 17 (by omega) (by omega)]
      exact (hL.2.2.2.2.2.2 r hr).2.2.1⟩ (fun p hp => by rw [(sp p hp).2.2, s3])
  refine ⟨X3, ?_, ⟨fun k hk => (c2.1 k hk).trans (e k (by omega)), c2.2.trans ((show (mx_si (mx_si (mx_si X2 29 9 (0 : Int32)) 29 10 (0 : Int32)) 29 11 (0 : Int32)).2 = X2.2 from rfl).trans (b3.trans a3))⟩, c4⟩
  have a1' : fX9_begin X = fX9_begin_51 mx_fu (0 : Int32) X1 := a1
  have b1' : fX9_begin_51 mx_fu (0 : Int32) X1 = (fX9_rest 29 (mx_si (mx_si (mx_si X2 29 9 (0 : Int32)) 29 10 (0 : Int32)) 29 11 (0 : Int32))).bind fun q113 => some q113 := b1
  rw [a1', b1', c1]
  rfl
/-! the reference: a new island -/
def isF (Y : MM) (k : Nat) : Int32 := if k < 54 then Y.1 3 k else 0
theorem m_is80 (Y : MM) : ∀ c i n, i + c = 294 → c < n → fX13_island_80 n (nI i) (cpR Y 2 (isF Y) 0 i) = fX13_island_117 mx_fu 0 (cpR Y 2 (isF Y) 0 294) := by
  intro c
  induction c with
  | zero =>
    intro i n hi hn
    obtain ⟨n, rfl⟩ : ∃ z, n = z + 1 := ⟨n - 1, by omega⟩
    have : i = 294 := by omega
    subst this
    rw [fX13_island_80, c294, if_pos (nI_le (by omega) (by omega))]
  | succ c ih =>
    intro i n hi hn
    obtain ⟨n, rfl⟩ : ∃ z, n = z + 1 := ⟨n - 1, by omega⟩
    have e := cpR_s (Y := Y) (c := 2) (b := 0) (k := i) (f := isF Y)
    rw [Nat.zero_add] at e
    rw [fX13_island_80, c294, if_neg (nI_ge (by omega) (by omega)), c54]
    by_cases q : 54 ≤ i
    · have e2 : isF Y i = 0 := by unfold isF; rw [if_neg (by omega)]
      rw [e2] at e
      rw [if_pos (nI_le q (by omega)), fX13_island_108, pb_gd (by omega) (by omega), nI_clamp (by omega), nI_1, e]
      exact ih (i + 1) n (by omega) (by omega)
    · have e2 : isF Y i = Y.1 3 i := by unfold isF; rw [if_pos (by omega)]
      rw [if_neg (nI_ge (by omega) (by omega)), pb_gd (by omega) (by omega), fX13_island_108, pb_gd (by omega) (by omega), nI_clamp (by omega), nI_1, cpR_n (by omega), ← e2, e]
      exact ih (i + 1) n (by omega) (by omega)
theorem m_is117 (Y : MM) : ∀ c i n, i + c = 14 → c < n → fX13_island_117 n (nI i) (cpL Y 5 (fun j => Y.2.1 5 (14 + j)) 0 i) = fX13_island_146 mx_fu 0 (cpL Y 5 (fun j => Y.2.1 5 (14 + j)) 0 14) := by
  intro c
  induction c with
  | zero =>
    intro i n hi hn
    obtain ⟨n, rfl⟩ : ∃ z, n = z + 1 := ⟨n - 1, by omega⟩
    have : i = 14 := by omega
    subst this
    rw [fX13_island_117, c14, if_pos (nI_le (by omega) (by omega))]
  | succ c ih =>
    intro i n hi hn
    obtain ⟨n, rfl⟩ : ∃ z, n = z + 1 := ⟨n - 1, by omega⟩
    have e := cpL_s (Y := Y) (c := 5) (b := 0) (k := i) (f := fun j => Y.2.1 5 (14 + j))
    rw [Nat.zero_add] at e
    rw [fX13_island_117, c14, if_neg (nI_ge (by omega) (by omega)), nI_add, pb_gd (by omega) (by omega), pb_gd (by omega) (by omega), nI_clamp (by omega), nI_clamp (by omega), nI_1, cpL_out (by omega), e]
    exact ih (i + 1) n (by omega) (by omega)
theorem m_is146 (Y : MM) : ∃ Y', fX13_island_146 mx_fu 0 Y = some (Y.1 0 19, mx_si Y' 0 23 0) ∧ (∀ a, a ≠ 2 → Y'.1 a = Y.1 a) ∧ Y'.2 = Y.2 ∧ (∀ j, j < 57 ∨ 85 ≤ j → Y'.1 2 j = Y.1 2 j) ∧ ∀ p, p < 7 → Y'.1 2 (57 + p) = Y.1 2 (5 + p) ∧ Y'.1 2 (64 + p) = Y.1 2 (12 + p) ∧ Y'.1 2 (71 + p) = Y.1 2 3 ∧ Y'.1 2 (78 + p) = Y.1 2 (40 + p) := by
  obtain ⟨Y1, a1, a2, a3, a4, a5⟩ := loop_rel (fun n k Z => fX13_island_146 n (nI k) Z) 7 (fun k Z => (∀ a, a ≠ 2 → Z.1 a = Y.1 a) ∧ Z.2 = Y.2 ∧ (∀ j, j < 57 ∨ 85 ≤ j → Z.1 2 j = Y.1 2 j) ∧ ∀ p, p < k → Z.1 2 (57 + p) = Y.1 2 (5 + p) ∧ Z.1 2 (64 + p) = Y.1 2 (12 + p) ∧ Z.1 2 (71 + p) = Y.1 2 3 ∧ Z.1 2 (78 + p) = Y.1 2 (40 + p)) (fun Z => some (Y.1 0 19, mx_si Z 0 23 0))
    (fun n Z hR => by
      show fX13_island_146 (n + 1) (nI 7) Z = _
      rw [fX13_island_146, c7, if_pos (nI_le (by omega) (by omega)), si_nj (by omega), hR.1 0 (by omega)])
    (fun n k Z hk hR => by
      obtain ⟨r1, r2, r3, r4⟩ := hR
      refine ⟨mx_si (mx_si (mx_si (mx_si Z 2 (57 + k) (Y.1 2 (5 + k))) 2 (64 + k) (Y.1 2 (12 + k))) 2 (71 + k) (Y.1 2 3)) 2 (78 + k) (Y.1 2 (40 + k)), ?_, fun a q => ?_, r2, fun j hj => ?_, fun p hp => ?_⟩
      · show fX13_island_146 (n + 1) (nI k) Z = fX13_island_146 n (nI (k + 1)) _
        have e5 : (5 : Int32) + nI k = nI (5 + k) := nI_add 5 k
        have e12 : (12 : Int32) + nI k = nI (12 + k) := nI_add 12 k
        have e40 : (40 : Int32) + nI k = nI (40 + k) := nI_add 40 k
        have e57 : (57 : Int32) + nI k = nI (57 + k) := nI_add 57 k
        have e64 : (64 : Int32) + nI k = nI (64 + k) := nI_add 64 k
        have e71 : (71 : Int32) + nI k = nI (71 + k) := nI_add 71 k
        have e78 : (78 : Int32) + nI k = nI (78 + k) := nI_add 78 k
        rw [fX13_island_146, c7, if_neg (nI_ge (by omega) (by omega)), e5, e12, e40, e57, e64, e71, e78]
        rw [pb_gd (by omega) (by omega), pb_gd (by omega) (by omega), pb_gd (by omega) (by omega), pb_gd (by omega) (by omega), pb_gd (by omega) (by omega), pb_gd (by omega) (by omega), pb_gd (by omega) (by omega)]
        simp only [nI_clamp (show 5 + k < 2 ^ 31 by omega), nI_clamp (show 12 + k < 2 ^ 31 by omega), nI_clamp (show 40 + k < 2 ^ 31 by omega), nI_clamp (show 57 + k < 2 ^ 31 by omega), nI_clamp (show 64 + k < 2 ^ 31 by omega), nI_clamp (show 71 + k < 2 ^ 31 by omega), nI_clamp (show 78 + k < 2 ^ 31 by omega), nI_1, si_nj (show 12 + k ≠ 57 + k by omega), si_nj (show 3 ≠ 64 + k by omega), si_nj (show 3 ≠ 57 + k by omega), si_nj (show 40 + k ≠ 71 + k by omega), si_nj (show 40 + k ≠ 64 + k by omega), si_nj (show 40 + k ≠ 57 + k by omega), r3 (5 + k) (by omega), r3 (12 + k) (by omega), r3 3 (by omega), r3 (40 + k) (by omega)]
      · rw [si_row q, si_row q, si_row q, si_row q]; exact r1 a q
      · rw [si_nj (by omega), si_nj (by omega), si_nj (by omega), si_nj (by omega)]; exact r3 j hj
      · rcases Nat.lt_or_ge p k with q | q
        · have e : ∀ b, b = 57 ∨ b = 64 ∨ b = 71 ∨ b = 78 → (mx_si (mx_si (mx_si (mx_si Z 2 (57 + k) (Y.1 2 (5 + k))) 2 (64 + k) (Y.1 2 (12 + k))) 2 (71 + k) (Y.1 2 3)) 2 (78 + k) (Y.1 2 (40 + k))).1 2 (b + p) = Z.1 2 (b + p) := fun b hb => by
            rw [si_nj (by omega), si_nj (by omega), si_nj (by omega), si_nj (by omega)]
          rw [e 57 (by omega), e 64 (by omega), e 71 (by omega), e 78 (by omega)]
          exact r4 p q
        · have : p = k := by omega
          subst this
          refine ⟨?_, ?_, ?_, ?_⟩
          · rw [si_nj (by omega), si_nj (by omega), si_nj (by omega), si_eq]
          · rw [si_nj (by omega), si_nj (by omega), si_eq]
          · rw [si_nj (by omega), si_eq]
          · rw [si_eq]) 7 0 mx_fu Y (by omega) (by unfold mx_fu; omega) ⟨fun _ _ => rfl, rfl, fun _ _ => rfl, fun p hp => absurd hp (by omega)⟩
  exact ⟨Y1, a1, a2, a3, a4, a5⟩
theorem m_clears {Y : MM} : ∃ Y', fX13_clears Y = some Y' ∧ (∀ a, a ≠ 3 → Y'.1 a = Y.1 a) ∧ Y'.2 = Y.2 ∧ Y'.1 3 0 = 0 ∧ Y'.1 3 1 = 0 ∧ Y'.1 3 2 = 1 ∧ Y'.1 3 3 = 5 ∧ Y'.1 3 4 = 4 := by
  obtain ⟨Y1, a1, a2, a3, a4⟩ := loop_rel (fun n k Z => fX13_clears_2 n (nI k) Z) 54 (fun k Z => (∀ a, a ≠ 3 → Z.1 a = Y.1 a) ∧ Z.2 = Y.2 ∧ ∀ j, j < k → Z.1 3 j = 0) (fun Z => some (mx_si (mx_si (mx_si Z 3 2 (1 : Int32)) 3 3 (5 : Int32)) 3 4 (4 : Int32)))
    (fun n Z hR => by
      show fX13_clears_2 (n + 1) (nI 54) Z = _
      rw [fX13_clears_2, c54, if_pos (nI_le (by omega) (by omega))])
    (fun n k Z hk hR => by
      obtain ⟨r1, r2, r3⟩ := hR
      refine ⟨mx_si Z 3 k 0, ?_, fun a q => by rw [si_row q]; exact r1 a q, r2, fun j hj => ?_⟩
      · show fX13_clears_2 (n + 1) (nI k) Z = fX13_clears_2 n (nI (k + 1)) _
        rw [fX13_clears_2, c54, if_neg (nI_ge (by omega) (by omega)), pb_gd (by omega) (by omega), nI_clamp (by omega), nI_1]
      · rcases Nat.lt_or_ge j k with q | q
        · rw [si_nj (by omega)]; exact r3 j q
        · have : j = k := by omega
          subst this
          exact si_eq) 54 0 mx_fu Y (by omega) (by unfold mx_fu; omega) ⟨fun _ _ => rfl, rfl, fun j hj => absurd hj (by omega)⟩
  refine ⟨_, a1, fun a q => by rw [si_row q, si_row q, si_row q]; exact a2 a q, a3, ?_, ?_, ?_, ?_, ?_⟩
  · rw [si_nj (by omega), si_nj (by omega), si_nj (by omega)]; exact a4 0 (by omega)
  · rw [si_nj (by omega), si_nj (by omega), si_nj (by omega)]; exact a4 1 (by omega)
  · rw [si_nj (by omega), si_nj (by omega), si_eq]
  · rw [si_nj (by omega), si_eq]
  · rw [si_eq]
