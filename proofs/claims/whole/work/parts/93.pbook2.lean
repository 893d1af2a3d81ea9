/-! a book: a line, all lines -/
theorem ob {a : Option (Bool × MM)} : (a.bind fun q => some (q.1, q.2)) = a := by cases a <;> rfl
theorem xsw_6 : ∀ w, w < 24 → (xsw w = 6 ↔ w = 6) ∧ (xsw w = 7 ↔ w = 7) ∧ (xsw w = 8 ↔ w = 8) ∧ (xsw w = 9 ↔ w = 9) ∧ (xsw w = 10 ↔ w = 10) := by decide
theorem NmR.x {o b K k j : Nat} {v : Int32} {X Y : MM} (h : NmR o b K X Y) : NmR o b K (mx_si X k j v) Y := h
theorem n40 {k : Nat} (hk : k < 40) : ¬ nI k = (40 : Int32) := fun q => by
  have := (nI_eq (a := k) (b := 40) (by omega) (by omega)).mp q
  omega
theorem nneg {q : Nat} (hq : q < 2 ^ 30) : ¬ nI q = (-1 : Int32) := fun z => by
  have := nI_pos (n := q) (by omega)
  rw [z] at this
  exact this (by decide)
def BO (T : TX) (P N k : Nat) (X Y : MM) : Prop :=
  (∃ s' X0 X' Y', fX1_takeWho X = some (true, X0) ∧ fX1_readAct X0 = some (true, X') ∧ fX13_bookLine Y = some (true, Y') ∧ WX X X' ∧ WY Y Y' ∧ LX T s' X' Y' ∧ BL P N k X' Y' ∧ bF k X X' Y Y') ∨
  (∃ X' Y', (fX1_takeWho X = some (false, X') ∨ ∃ X0, fX1_takeWho X = some (true, X0) ∧ fX1_readAct X0 = some (false, X')) ∧ fX13_bookLine Y = some (false, Y') ∧ WX X X' ∧ WY Y Y' ∧ FL X' Y')
theorem b_line {T : TX} {s k P N : Nat} {X Y : MM} (h : LX T s X Y) (hS : SB P N X Y) (hk : X.1 138 4 = nI k) (hk2 : k < 40) (hy : Y.1 0 39 = nI k) : BO T P N k X Y := by
  have hP := hS.1
  have hin : mx_in (nI k) 40 = true := pb_in hk2 (by omega)
  have hcl : (nI k).toNatClampNeg = k := nI_clamp (by omega)
  have hw := h.tk.2.1
  have e4 : (4 : Int32) * nI k = nI (4 * k) := pk_mul 4 k
  have hXa : ∃ Xa, Xa = mx_si X 140 k (-1 : Int32) := ⟨_, rfl⟩
  obtain ⟨Xa, eXa⟩ := hXa
  have ha : LX T s Xa Y := by rw [eXa]; exact h.xs (by omega)
  have wa : WX X Xa := by rw [eXa]; exact WX.rf.si (by omega)
  have fa : bF k X Xa Y Y := by rw [eXa]; exact bF.rf.x (by omega)
  have ka : Xa.2.2 8 s = X.2.2 8 s := by rw [eXa]; rfl
  have a38 : Xa.1 138 4 = nI k := by rw [eXa, si_nk (by omega)]; exact hk
  have a40 : Xa.1 140 k = -1 := by rw [eXa, si_eq]
  have wh0 : fX1_takeWho X = if X.2.2 8 s = 11 then some (true, Xa) else (fX3_personNamed 9 (Xa.2.1 7 s) Xa).bind fun q28 => (fX7_takeNamed q28 Xa).bind fun q31 => if (mx_b q31.1) = 0 then some (false, q31.2) else if mx_in (q31.2.1 138 4) 40 then some (true, (mx_si q31.2 140 (q31.2.1 138 4).toNatClampNeg (q31.2.1 3 9))) else none := by
    rw [fX1_takeWho, hk, hin, hcl, if_pos rfl, ← eXa, p_key ha, p_name ha]
    simp only [pb_bs]
    rw [ka, if_pos hw]
  have bl0 : fX13_bookLine Y = if X.2.2 8 s = 11 then fX13_bookLine_35 (nI (4 * k)) true Y else (fX13_looksAt (0 : Int32) (nI P) Y).bind fun q27 => if (mx_b q27.1) = 0 then some (false, q27.2) else fX13_bookLine_35 (nI (4 * k)) false q27.2 := by
    rw [fX13_bookLine, show (6578553 : Int64) = resW 10 from rfl, p_isWord h 10 (by omega), hy, e4, hS.2.2.2.2.1]
    simp only [pb_bs]
    by_cases e : X.2.2 8 s = 11
    · rw [decide_eq_true e, if_neg b_t, if_pos e]
    · rw [decide_eq_false e, if_pos b_f, if_neg e]
  by_cases e11 : X.2.2 8 s = 11
  · rw [if_pos e11] at wh0 bl0
    have act : fX1_readAct Xa = fX1_readNumbers 50 1 60 Xa := by
      rw [fX1_readAct, a38, hin, hcl, if_pos rfl, if_pos a40, fX1_readAct_18, p_key ha]
      simp only [pb_bs]
      rw [ka, if_pos hw, if_pos e11, if_pos b_f]
      exact ob
    rcases b_day (P := P) (N := N) ha (ha.tk.key (by rw [ka, e11]; omega)) a38 hk2 hy with ⟨s', X', Y', b1, b2, b3, b4, b5, b6, b7⟩ | ⟨X', Y', b1, b2, b3, b4, b5⟩
    · left
      exact ⟨s', Xa, X', Y', wh0, act.trans b1, bl0.trans b2, wa.tr b3, b4, b5, b6, fa.tr b7⟩
    · right
      exact ⟨X', Y', Or.inr ⟨Xa, wh0, act.trans b1⟩, bl0.trans b2, wa.tr b3, b4, b5⟩
  · rw [if_neg e11] at wh0 bl0
    have hSa := hS.w wa WY.rf
    rw [x_pNamed hSa.2.2.1 hP] at wh0
    simp only [pb_bs] at wh0
    rcases p_looks ha hSa.2.2.2.2.2.2.1 with ⟨q, hq, e, ek, el⟩ | ⟨X', Y', a1, a2, a3, a4, a5⟩
    · have el' : fX13_looksAt 0 (nI P) Y = some (true, mx_si Y 0 18 (nI q)) := el
      rw [el'] at bl0
      have tk : fX7_takeNamed (fnd (fun p => decide (Xa.2.1 (9 + 1) p = Xa.2.1 7 s)) P) Xa = some (true, mx_si (mx_si Xa 3 9 (nI q)) 3 7 (nI (s + 1))) := by
        have : fnd (fun p => decide (Xa.2.1 (9 + 1) p = Xa.2.1 7 s)) P = nI q := ek
        rw [this]
        exact x_takeNm ha e (by omega)
      rw [tk] at wh0
      simp only [pb_bs] at wh0 bl0
      rw [if_neg b_t, si_nk (by omega), si_nk (by omega), a38, hin, hcl, if_pos rfl, si_nj (by omega), si_eq] at wh0
      rw [if_neg b_t] at bl0
      obtain ⟨c1, Y1, c2, c3, h1⟩ := ((ha.xs (k := 3) (j := 9) (v := nI q) (by omega)).ys (k := 0) (j := 18) (v := nI q) (by omega)).adv (by rw [si_nk (by omega), e]; decide) (by rw [si_nk (by omega), e]; decide)
      have hX0 : ∃ X0, X0 = mx_si (mx_si (mx_si Xa 3 9 (nI q)) 3 7 (nI (s + 1))) 140 k (nI q) := ⟨_, rfl⟩
      obtain ⟨X0, eX0⟩ := hX0
      rw [← eX0] at wh0
      have hY2 : ∃ Y2, Y2 = mx_si Y1 4 (4 * k) (5 : Int32) := ⟨_, rfl⟩
      obtain ⟨Y2, eY2⟩ := hY2
      have h2 : LX T (s + 1) X0 Y2 := by rw [eX0, eY2]; exact (h1.xs (by omega)).ys (by omega)
      have w0 : WX X X0 := by rw [eX0]; exact ((wa.si (by omega)).si (by omega)).si (by omega)
      have wy2 : WY Y Y2 := by rw [eY2]; exact ((WY.rf.si (by omega)).tr c3.y.w).si (by omega)
      have f0 : bF k X X0 Y Y2 := by
        rw [eX0, eY2]
        exact ((fa.tr (bF.n ((nX.rf.si (by omega)).si (by omega)) ((nY.rf.si (by omega)).tr c3.y))).x (by omega)).y (by omega)
      have s0 := hS.w w0 wy2
      have o38 : X0.1 138 4 = nI k := by rw [eX0, si_nk (by omega), si_nk (by omega), si_nk (by omega)]; exact a38
      have o40 : X0.1 140 k = nI q := by rw [eX0, si_eq]
      have hw2 := h2.tk.2.1
      obtain ⟨x6, x7, x8, x9, x10⟩ := xsw_6 _ hw2
      have act : fX1_readAct X0 = fX1_readAct_48 (X0.2.2 8 (s + 1)) X0 := by
        rw [fX1_readAct, o38, hin, hcl, if_pos rfl, o40, if_neg (nneg (by omega)), fX1_readAct_18, p_key h2]
        simp only [pb_bs]
        rw [if_pos hw2]
        by_cases z : X0.2.2 8 (s + 1) = 11
        · rw [if_pos z, if_neg b_t]
        · rw [if_neg z]
      have i0 : mx_in (nI (4 * k)) 160 = true := pb_in (by omega) (by omega)
      have g0 : (nI (4 * k)).toNatClampNeg = 4 * k := nI_clamp (by omega)
      rw [fX13_bookLine_35, si_nj (by omega), hy, if_neg (n40 hk2), c2, si_eq] at bl0
      simp only [pb_bs] at bl0
      rw [i0, if_pos rfl, if_pos b_f, g0, ← eY2, show (1735353715 : Int64) = resW 5 from rfl, show (448311223411 : Int64) = resW 6 from rfl, show (512801993331 : Int64) = resW 7 from rfl, show (431365711475 : Int64) = resW 8 from rfl, show (439855506547 : Int64) = resW 9 from rfl, p_isWord h2 5 (by omega), p_isWord h2 6 (by omega), p_isWord h2 7 (by omega), p_isWord h2 8 (by omega), p_isWord h2 9 (by omega)] at bl0
      simp only [pb_bs, mx_b_0, decide_eq_false_iff_not] at bl0
      rw [fX1_readAct_48, if_pos hw2] at act
      simp only [ob, propext x6, propext x7, propext x8, propext x9, propext x10] at act
      have key3 : X0.2.2 8 (s + 1) ≠ 0 → X0.1 4 (s + 1) = 3 := h2.tk.key
      have fin : ∀ {a b : Option (Bool × MM)}, fX1_readAct X0 = a → fX13_bookLine Y = b → PW T X0 Y2 a b (fun X' Y' => BL P N k X' Y' ∧ bF k X0 X' Y2 Y') → BO T P N k X Y := by
        intro a b ea eb hp
        rcases hp with ⟨s', X', Y', b1, b2, b3, b4, b5, b6, b7⟩ | ⟨X', Y', b1, b2, b3, b4, b5⟩
        · left
          exact ⟨s', X0, X', Y', wh0, ea.trans b1, eb.trans b2, w0.tr b3, wy2.tr b4, b5, b6, f0.tr b7⟩
        · right
          exact ⟨X', Y', Or.inr ⟨X0, wh0, ea.trans b1⟩, eb.trans b2, w0.tr b3, wy2.tr b4, b5⟩
      by_cases z6 : X0.2.2 8 (s + 1) = 6
      · rw [if_pos z6] at act
        rw [if_neg (fun z => z z6)] at bl0
        exact fin act bl0 (b_goes h2 (key3 (by omega)) o38 hk2 o40 hq hP)
      rw [if_neg z6] at act
      rw [if_pos z6] at bl0
      by_cases z7 : X0.2.2 8 (s + 1) = 7
      · rw [if_pos z7] at act
        rw [if_neg (fun z => z z7)] at bl0
        exact fin act bl0 (b_ring (w := 1) h2 (key3 (by omega)) s0 o38 hk2 o40 hq (by omega))
      rw [if_neg z7] at act
      rw [if_pos z7] at bl0
      by_cases z8 : X0.2.2 8 (s + 1) = 8
      · rw [if_pos z8] at act
        rw [if_neg (fun z => z z8)] at bl0
        exact fin act bl0 (b_ring (w := 2) h2 (key3 (by omega)) s0 o38 hk2 o40 hq (by omega))
      rw [if_neg z8] at act
      rw [if_pos z8] at bl0
      by_cases z9 : X0.2.2 8 (s + 1) = 9
      · rw [if_pos z9] at act
        rw [if_neg (fun z => z z9)] at bl0
        exact fin act bl0 (b_doff h2 (key3 (by omega)) o38 hk2 o40 hq)
      rw [if_neg z9] at act
      rw [if_pos z9] at bl0
      by_cases z10 : X0.2.2 8 (s + 1) = 10
      · rw [if_pos z10] at act
        rw [if_neg (fun z => z z10)] at bl0
        exact fin act bl0 (b_ring (w := 4) h2 (key3 (by omega)) s0 o38 hk2 o40 hq (by omega))
      rw [if_neg z10] at act
      rw [if_pos z10, fX13_bookLine_167, if_neg (by decide), ob] at bl0
      exact fin act bl0 (Or.inr (p_fail h2 1).w)
    · have a1' : fX7_takeNamed (fnd (fun p => decide (Xa.2.1 (9 + 1) p = Xa.2.1 7 s)) P) Xa = some (false, X') := a1
      have a2' : fX13_looksAt 0 (nI P) Y = some (false, Y') := a2
      rw [a1'] at wh0
      rw [a2'] at bl0
      simp only [pb_bs] at wh0 bl0
      rw [if_pos b_f] at wh0 bl0
      right
      exact ⟨X', Y', Or.inl wh0, bl0, wa.tr a3.w, a4.w, a5⟩
/-- behind forty lines -/
theorem b_over {T : TX} {s P N : Nat} {X Y : MM} (h : LX T s X Y) (hS : SB P N X Y) (hy : Y.1 0 39 = nI 40) : NW X Y (fX1_failBehindAll X) (fX13_bookLine Y) := by
  have hP := hS.1
  have hw := h.tk.2.1
  have bl0 : fX13_bookLine Y = if X.2.2 8 s = 11 then (fX13_bad 4 Y).bind fun q46 => some (q46.1, q46.2) else (fX13_looksAt (0 : Int32) (nI P) Y).bind fun q27 => if (mx_b q27.1) = 0 then some (false, q27.2) else fX13_bookLine_35 ((4 : Int32) * nI 40) false q27.2 := by
    rw [fX13_bookLine, show (6578553 : Int64) = resW 10 from rfl, p_isWord h 10 (by omega), hy, hS.2.2.2.2.1]
    simp only [pb_bs]
    by_cases e : X.2.2 8 s = 11
    · rw [decide_eq_true e, if_neg b_t, if_pos e, fX13_bookLine_35, hy, if_pos (show nI 40 = (40 : Int32) from rfl)]
    · rw [decide_eq_false e, if_pos b_f, if_neg e]
  rw [bl0, fX1_failBehindAll, p_isAt h, p_name h]
  simp only [pb_bs]
  rw [x_pNamed hS.2.2.1 hP]
  simp only [pb_bs, ob, fX1_failBehindAll_24, fX1_failBehindAll_25, fX1_failBehindAll_40, fX1_failBehindAll_60, p_key h, p_isAt h]
  rw [if_pos b_f, if_neg b_t, if_pos hw]
  by_cases e11 : X.2.2 8 s = 11
  · have e3 := h.tk.key (by rw [e11]; omega)
    rw [if_pos e11, if_pos e11, decide_eq_false (by rw [e3]; decide), if_pos b_f]
    exact (p_fail h 4).w
  · rw [if_neg e11, if_neg e11]
    rcases p_looks h hS.2.2.2.2.2.2.1 with ⟨q, hq, e, ek, el⟩ | ⟨X', Y', a1, a2, a3, a4, a5⟩
    · have el' : fX13_looksAt 0 (nI P) Y = some (true, mx_si Y 0 18 (nI q)) := el
      have ek' : fnd (fun p => decide (X.2.1 (9 + 1) p = X.2.1 7 s)) P = nI q := ek
      rw [decide_eq_true e, if_neg b_t, ek', if_neg (nneg (by omega)), el']
      simp only [pb_bs]
      rw [if_neg b_t, fX13_bookLine_35, si_nj (by omega), hy, if_pos (show nI 40 = (40 : Int32) from rfl), ob]
      exact (p_fail (h.ys (k := 0) (j := 18) (v := nI q) (by omega)) 4).w.bk WX.rf (WY.rf.si (by omega))
    · have a1' : fX7_takeNamed (fnd (fun p => decide (X.2.1 (9 + 1) p = X.2.1 7 s)) P) X = some (false, X') := a1
      have a2' : fX13_looksAt 0 (nI P) Y = some (false, Y') := a2
      rw [a2']
      simp only [pb_bs]
      rw [if_pos b_f]
      rw [fX7_takeNamed, h.x7, h.in_, h.cl, if_pos rfl, ob, ob] at a1'
      by_cases e : X.1 4 s = 2
      · rw [if_pos e] at a1'
        rw [decide_eq_true e, if_neg b_t, if_neg b_t]
        by_cases z : fnd (fun p => decide (X.2.1 (9 + 1) p = X.2.1 7 s)) P = -1
        · rw [if_pos z] at a1'
          rw [if_pos z, a1']
          exact ⟨X', Y', rfl, rfl, a3.w, a4.w, a5⟩
        · rw [if_neg z] at a1'
          exfalso
          obtain ⟨b1, -⟩ := (h.xs (k := 3) (j := 9) (v := fnd (fun p => decide (X.2.1 (9 + 1) p = X.2.1 7 s)) P) (by omega)).adv (by rw [si_nk (by omega), e]; decide) (by rw [si_nk (by omega), e]; decide)
          rw [b1] at a1'
          simp at a1'
      · rw [if_neg e] at a1'
        rw [decide_eq_false e, if_pos b_f, if_pos b_f, a1']
        exact ⟨X', Y', rfl, rfl, a3.w, a4.w, a5⟩
def BK (P N k : Nat) (X Y : MM) : Prop := k ≤ 40 ∧ X.1 138 4 = nI k ∧ Y.1 0 39 = nI k ∧ ∀ i, i < k → BL P N i X Y
theorem BL.fr {P N i : Nat} {X Y X' Y' : MM} (h : BL P N i X Y) (hX : ∀ a, 139 ≤ a → a ≤ 142 → X'.1 a i = X.1 a i) (hY : ∀ j, 4 * i ≤ j → j < 4 * i + 4 → Y'.1 4 j = Y.1 4 j) : BL P N i X' Y' := by
  unfold BL
  rw [hX 139 (by omega) (by omega), hX 140 (by omega) (by omega), hX 141 (by omega) (by omega), hX 142 (by omega) (by omega), hY (4 * i) (by omega) (by omega), hY (4 * i + 1) (by omega) (by omega), hY (4 * i + 2) (by omega) (by omega), hY (4 * i + 3) (by omega) (by omega)]
  exact h
theorem b_loop {T : TX} {P N : Nat} {i1 : Int32} : ∀ c f g s k X Y, 40 - k ≤ c → c < f → c < g → LX T s X Y → SB P N X Y → BK P N k X Y → (∃ s' X' Y' k', fX1_readFrom_5 f X = some (true, X') ∧ fX13_book_39 i1 g Y = (fX13_tries Y').bind (fun q84 => fX13_book_89 i1 mx_fu (0 : Int32) q84) ∧ WX X X' ∧ WY Y Y' ∧ LX T s' X' Y' ∧ BK P N k' X' Y') ∨ (∃ X' Y', fX1_readFrom_5 f X = some (false, X') ∧ fX13_book_39 i1 g Y = some ((-2 : Int32) - Y'.1 0 16, Y') ∧ WX X X' ∧ WY Y Y' ∧ FL X' Y') := by
  intro c
  induction c with
  | zero =>
    intro f g s k X Y hc hf hg h hS hB
    obtain ⟨k1, k2, k3, k4⟩ := hB
    obtain ⟨f, rfl⟩ : ∃ z, f = z + 1 := ⟨f - 1, by omega⟩
    obtain ⟨g, rfl⟩ : ∃ z, g = z + 1 := ⟨g - 1, by omega⟩
    have : k = 40 := by omega
    subst this
    rw [fX1_readFrom_5, fX13_book_39, k2, if_pos (show (40 : Int32) ≤ nI 40 by decide), p_isAt h]
    simp only [pb_bs, ← h.tk.end_]
    by_cases e : X.1 4 s = 1
    · rw [decide_eq_true e, if_neg b_t, if_pos e]
      left
      exact ⟨s, X, Y, 40, rfl, rfl, WX.rf, WY.rf, h, k1, k2, k3, k4⟩
    · rw [decide_eq_false e, if_pos b_f, if_neg e]
      obtain ⟨X', Y', a1, a2, a3, a4, a5⟩ := b_over h hS k3
      rw [a1, a2]
      simp only [pb_bs]
      rw [if_pos b_f, if_pos b_f]
      right
      exact ⟨X', Y', rfl, rfl, a3, a4, a5⟩
  | succ c ih =>
    intro f g s k X Y hc hf hg h hS hB
    obtain ⟨k1, k2, k3, k4⟩ := hB
    obtain ⟨f, rfl⟩ : ∃ z, f = z + 1 := ⟨f - 1, by omega⟩
    obtain ⟨g, rfl⟩ : ∃ z, g = z + 1 := ⟨g - 1, by omega⟩
    by_cases h40 : k = 40
    · subst h40
      exact ih (f + 1) (g + 1) s 40 X Y (by omega) (by omega) (by omega) h hS ⟨k1, k2, k3, k4⟩
    · rw [fX1_readFrom_5, fX13_book_39, k2, if_neg (show ¬ (40 : Int32) ≤ nI k from nI_ge (b := 40) (by omega) (by omega)), p_isAt h]
      simp only [pb_bs, ← h.tk.end_]
      by_cases e : X.1 4 s = 1
      · rw [decide_eq_true e, if_neg b_t, if_pos e]
        left
        exact ⟨s, X, Y, k, rfl, rfl, WX.rf, WY.rf, h, k1, k2, k3, k4⟩
      · rw [decide_eq_false e, if_pos b_f, if_neg e]
        rcases b_line h hS k2 (by omega) k3 with ⟨s1, X0, X1, Y1, a0, a1, a2, a3, a4, a5, a6, a7⟩ | ⟨X', Y', a1, a2, a3, a4, a5⟩
        · rw [a0, a2]
          simp only [pb_bs]
          rw [if_neg b_t, if_neg b_t, a1]
          simp only [pb_bs]
          rw [if_neg b_t, show (59 : Int32) = nI 59 from rfl]
          rcases p_sign (c := 59) a5 (by decide) (by omega) with ⟨s2, X2, Y2, b1, b2, b3, b4, b5, -⟩ | ⟨X', Y', b1, b2, b3, b4, b5⟩
          · rw [b1, b2]
            simp only [pb_bs]
            rw [if_neg b_t, if_neg b_t]
            have x38 : X2.1 138 4 = nI k := by rw [b3.1 138 4 (by omega), a7.2.1]; exact k2
            have y39 : Y2.1 0 39 = nI k := by rw [b4.1 0 39 (by omega), a7.2.2.2]; exact k3
            rw [x38, y39, nI_1]
            have wX : WX X (mx_si X2 138 4 (nI (k + 1))) := (a3.tr b3.w).si (by omega)
            have wY : WY Y (mx_si Y2 0 39 (nI (k + 1))) := (a4.tr b4.w).si (by omega)
            have hB' : BK P N (k + 1) (mx_si X2 138 4 (nI (k + 1))) (mx_si Y2 0 39 (nI (k + 1))) := ⟨by omega, si_eq, si_eq, fun i hi => by
              refine BL.fr (X := X1) (Y := Y1) ?_ (fun a q1 q2 => by rw [si_nk (by omega), b3.1 _ _ (by omega)]) (fun j q1 q2 => by rw [si_nk (by omega), b4.1 _ _ (by omega)])
              rcases Nat.lt_or_ge i k with z | z
              · exact (k4 i z).fr (fun a q1 q2 => a7.1 a q1 q2 i (by omega)) (fun j q1 q2 => a7.2.2.1 j (by omega))
              · have : i = k := by omega
                subst this
                exact a6⟩
            rcases ih f g s2 (k + 1) _ _ (by omega) (by omega) (by omega) ((b5.xs (by omega)).ys (by omega)) (hS.w wX wY) hB' with ⟨s', X', Y', k', g1, g2, g3, g4, g5, g6⟩ | ⟨X', Y', g1, g2, g3, g4, g5⟩
            · left
              exact ⟨s', X', Y', k', g1, g2, wX.tr g3, wY.tr g4, g5, g6⟩
            · right
              exact ⟨X', Y', g1, g2, wX.tr g3, wY.tr g4, g5⟩
          · rw [b1, b2]
            simp only [pb_bs]
            rw [if_pos b_f, if_pos b_f]
            right
            exact ⟨X', Y', rfl, rfl, a3.tr b3.w, a4.tr b4.w, b5⟩
        · right
          rw [a2]
          simp only [pb_bs]
          rw [if_pos b_f]
          rcases a1 with a1 | ⟨X0, a0, a1⟩
          · rw [a1]
            simp only [pb_bs]
            rw [if_pos b_f]
            exact ⟨X', Y', rfl, rfl, a3, a4, a5⟩
          · rw [a0]
            simp only [pb_bs]
            rw [if_neg b_t, a1]
            simp only [pb_bs]
            rw [if_pos b_f]
            exact ⟨X', Y', rfl, rfl, a3, a4, a5⟩
