/-! what is told once -/
theorem once_b : ∀ m, m < 8 → ∀ b, b < 3 → m ||| 2 ^ b < 8 ∧ (∀ c, c < 3 → (m ||| 2 ^ b).testBit c = (m.testBit c || decide (c = b))) ∧ (m.testBit b = false → popc (m ||| 2 ^ b) = popc m + 1) := by decide
theorem IR.once {P N m k v b : Nat} {X Y X' Y' : MM} (h : IR P N m k X Y) (hb : b < 3) (hv : (b = 0 → v ≤ 5) ∧ (b = 1 → 1 ≤ v ∧ v ≤ 20) ∧ (b = 2 → 2 ≤ v ∧ v ≤ 9)) (r19 : X'.1 19 = upd (upd (X.1 19) (15 + b) 1) (11 + b) (nI v)) (rX : ∀ a, 21 ≤ a → a ≤ 28 → X'.1 a = X.1 a) (l : X'.2 = X.2) (y3 : Y'.1 3 = upd (Y.1 3) (2 + b) (nI v)) (y5 : Y'.2.1 5 = Y.2.1 5) (y20 : Y'.1 0 20 = nI (m ||| 2 ^ b)) (y19 : Y'.1 0 19 = Y.1 0 19) : IR P N (m ||| 2 ^ b) k X' Y' := by
  obtain ⟨⟨a1, a2, a3, a4, a5, a6, a7, a8, a9⟩, ⟨c1, c2, c3, c4, c5, c6, c7⟩, d1, d2, d3, d4, d5, d6, d7, d8, d9⟩ := h
  obtain ⟨m1, m2, -⟩ := once_b m d3 b hb
  have H : ∀ i, i ≠ 2 + b → Y'.1 3 i = Y.1 3 i := fun i hi => by rw [y3, pk_un hi]
  have H2 : Y'.1 3 (2 + b) = nI v := by rw [y3, pk_us]
  have x19 : ∀ j, j ≠ 15 + b → j ≠ 11 + b → X'.1 19 j = X.1 19 j := fun j h1 h2 => by rw [r19, pk_un h2, pk_un h1]
  have x11 : X'.1 19 (11 + b) = nI v := by rw [r19, pk_us]
  have x15 : X'.1 19 (15 + b) = 1 := by rw [r19, pk_un (by omega), pk_us]
  have told : ∀ c, c < 3 → X.1 19 (15 + c) = mx_b (m.testBit c) → X'.1 19 (15 + c) = mx_b ((m ||| 2 ^ b).testBit c) := fun c hc e => by
    rw [m2 c hc]
    by_cases q : c = b
    · subst q
      rw [x15]
      simp [mx_b]
    · rw [x19 _ (by omega) (by omega), e]
      simp [q]
  refine ⟨⟨by rw [H 0 (by omega)]; exact a1, a2, by rw [H 1 (by omega)]; exact a3, a4, ?_, ?_, ?_, ?_, ?_⟩, ⟨?_, ?_, ?_, ?_, ?_, ?_, ?_⟩, d1.fr (fun p hp => by rw [l]) y5, d2.fr (fun p hp => by rw [l]) y5, m1, y20, told 0 (by omega) d5, told 1 (by omega) d6, told 2 (by omega) d7, by rw [x19 14 (by omega) (by omega)]; exact d8, by rw [y19]; exact d9⟩
  · by_cases q : b = 0
    · subst q; exact ⟨v, hv.1 rfl, H2⟩
    · rw [H 2 (by omega)]; exact a5
  · by_cases q : b = 1
    · subst q; exact ⟨v, (hv.2.1 rfl).1, (hv.2.1 rfl).2, H2⟩
    · rw [H 3 (by omega)]; exact a6
  · by_cases q : b = 2
    · subst q; exact ⟨v, (hv.2.2 rfl).1, (hv.2.2 rfl).2, H2⟩
    · rw [H 4 (by omega)]; exact a7
  · intro p hp
    rw [H (5 + p) (by omega), H (12 + p) (by omega), H (19 + p) (by omega)]
    exact a8 p hp
  · intro r hr
    rw [H (26 + r) (by omega), H (33 + r) (by omega), H (40 + r) (by omega), H (47 + r) (by omega)]
    exact a9 r hr
  · rw [x19 0 (by omega) (by omega), H 0 (by omega)]; exact c1
  · rw [x19 1 (by omega) (by omega), H 1 (by omega)]; exact c2
  · by_cases q : b = 0
    · subst q; exact x11.trans H2.symm
    · rw [x19 11 (by omega) (by omega), H 2 (by omega)]; exact c3
  · by_cases q : b = 1
    · subst q; exact x11.trans H2.symm
    · rw [x19 12 (by omega) (by omega), H 3 (by omega)]; exact c4
  · by_cases q : b = 2
    · subst q; exact x11.trans H2.symm
    · rw [x19 13 (by omega) (by omega), H 4 (by omega)]; exact c5
  · intro p hp
    show X'.1 21 p = _ ∧ X'.1 22 p = _ ∧ X'.1 23 p = _
    rw [rX 21 (by omega) (by omega), rX 22 (by omega) (by omega), rX 23 (by omega) (by omega), H (5 + p) (by omega), H (12 + p) (by omega), H (19 + p) (by omega)]
    exact c6 p hp
  · intro r hr
    show X'.1 25 r = _ ∧ X'.1 26 r = _ ∧ X'.1 27 r = _ ∧ X'.1 28 r = _
    rw [rX 25 (by omega) (by omega), rX 26 (by omega) (by omega), rX 27 (by omega) (by omega), rX 28 (by omega) (by omega), H (26 + r) (by omega), H (33 + r) (by omega), H (40 + r) (by omega), H (47 + r) (by omega)]
    exact c7 r hr
theorem i_once {T : TX} {s P N m k b lo hi : Nat} {X Y : MM} (h : LX T s X Y) (hI : IR P N m k X Y) (h4 : X.1 4 s = 3) (hb : b < 3) (hlo : lo ≤ 1000) (hhi : hi ≤ 1000) (hv : (b = 0 → hi ≤ 5) ∧ (b = 1 → 1 ≤ lo ∧ hi ≤ 20) ∧ (b = 2 → 2 ≤ lo ∧ hi ≤ 9)) : PW T X Y ((fX3_takeOnce (X.1 19 (15 + b)) (nI lo) (nI hi) X).bind fun q => if mx_b q.1 = 0 then some (false, q.2) else some (true, mx_si (mx_si q.2 19 (15 + b) 1) 19 (11 + b) ((mx_si q.2 19 (15 + b) 1).1 3 9))) (fX13_once (nI b) (nI (2 + b)) (nI lo) (nI hi) Y) (fun X' Y' => m.testBit b = false ∧ IR P N (m ||| 2 ^ b) k X' Y') := by
  have hm := hI.2.2.2.2.1
  have hx : X.1 19 (15 + b) = mx_b (m.testBit b) := by
    obtain ⟨-, -, -, -, -, -, d5, d6, d7, -, -⟩ := hI
    rcases (by omega : b = 0 ∨ b = 1 ∨ b = 2) with rfl | rfl | rfl
    · exact d5
    · exact d6
    · exact d7
  rw [fX3_takeOnce, fX13_once, hx, hI.2.2.2.2.2.1, m_bitOf (by omega) (by omega), (bit_or m (by omega) b (by omega)).1]
  simp only [pb_bs]
  cases hB : m.testBit b
  · rw [if_pos b_f, if_pos b_f]
    have h1 := h.ys (k := 0) (j := 20) (v := nI (m ||| 2 ^ b)) (by omega)
    obtain ⟨a1, Y1, a2, a3, h2⟩ := h1.adv (by rw [h4]; decide) (by rw [h4]; decide)
    rw [a1, a2]
    simp only [pb_bs]
    have w1 : WY Y Y1 := (WY.rf.si (by omega)).tr a3.y.w
    have wx1 : WX X (mx_si X 3 7 (nI (s + 1))) := WX.rf.si (by omega)
    rcases p_puts (lo := lo) (hi := hi) (k := 2 + b) h2 hlo hhi (by omega) with ⟨s3, X3, Y3, v, d1, d2, d3, d4, d5, d6, d7, d8, h3, d9⟩ | hno
    · rw [d3, d4]
      simp only [pb_bs]
      rw [if_neg b_t, si_nk (by omega), d9]
      left
      refine ⟨s3, _, Y3, rfl, rfl, ((wx1.tr d5.w).si (by omega)).si (by omega), w1.tr d6.1, (h3.xs (by omega)).xs (by omega), trivial, ?_⟩
      refine hI.once (v := v) hb ⟨fun q => by have := hv.1 q; omega, fun q => by have := hv.2.1 q; omega, fun q => by have := hv.2.2 q; omega⟩ ?_ ?_ ?_ ?_ ?_ ?_ ?_
      · rw [mx_si_eq, mx_si_eq, d5.row (by omega), si_row (by omega)]
      · intro a q1 q2
        rw [si_row (by omega), si_row (by omega), d5.row (by omega), si_row (by omega)]
      · show X3.2 = _
        rw [d5.2]
        rfl
      · rw [d7, a3.y.row (by omega), si_row (by omega)]
      · rw [d8, a3.y.lrow (by omega)]
        rfl
      · rw [d6.2.2, a3.1 0 20 (by omega), si_eq]
      · rw [d6.2.1, a3.1 0 19 (by omega), si_nj (by omega)]
    · right
      obtain ⟨X', Y', e1, e2, e3, e4, e5⟩ := hno
      rw [e1, e2]
      simp only [pb_bs]
      rw [if_pos b_f]
      exact ⟨X', Y', rfl, rfl, wx1.tr e3.w, w1.tr e4.w, e5⟩
  · rw [if_neg b_t, if_neg b_t]
    right
    obtain ⟨X', Y', e1, e2, e3, e4, e5⟩ := p_fail h 3
    rw [e1, e2]
    simp only [pb_bs]
    rw [if_pos b_f]
    exact ⟨X', Y', rfl, rfl, e3.w, e4.w, e5⟩
/-! a line -/
theorem xsw_1 : ∀ w, w < 24 → (xsw w = 1 ↔ w = 1) ∧ (xsw w = 2 ↔ w = 2) ∧ (xsw w = 3 ↔ w = 3) ∧ (xsw w = 4 ↔ w = 4) ∧ (xsw w = 5 ↔ w = 5) := by decide
theorem PW.im {T : TX} {X Y : MM} {a b : Option (Bool × MM)} {Q R : MM → MM → Prop} (h : PW T X Y a b Q) (f : ∀ X' Y', Q X' Y' → R X' Y') : PW T X Y a b R := by
  rcases h with ⟨s, X', Y', e1, e2, e3, e4, e5, e6⟩ | h
  · left; exact ⟨s, X', Y', e1, e2, e3, e4, e5, f _ _ e6⟩
  · right; exact h
theorem i_line {T : TX} {s P N m k : Nat} {X Y : MM} (h : LX T s X Y) (hI : IR P N m k X Y) : PW T X Y (fX3_readLine X) (fX13_line Y) (fun X' Y' => ∃ P' N' m', IR P' N' m' k X' Y' ∧ P' + N' + popc m' = P + N + popc m + 1) := by
  have hw := h.tk.2.1
  obtain ⟨x1, x2, x3, x4, x5⟩ := xsw_1 _ hw
  have key : X.2.2 8 s ≠ 0 → X.1 4 s = 3 := h.tk.key
  have hm := hI.2.2.2.2.1
  rw [fX3_readLine, p_key h, fX13_line]
  simp only [pb_bs, hw, ↓reduceIte, propext x1, propext x2, propext x3, propext x4, propext x5]
  rw [show (123581014175598 : Int64) = resW 0 from rfl, show (1919512167 : Int64) = resW 1 from rfl, show (6711668 : Int64) = resW 2 from rfl, show (2002873451 : Int64) = resW 3 from rfl, show (117001056382053 : Int64) = resW 4 from rfl, p_isWord h 0 (by omega), p_isWord h 1 (by omega), p_isWord h 2 (by omega), p_isWord h 3 (by omega), p_isWord h 4 (by omega)]
  simp only [pb_bs, mx_b_0, decide_eq_false_iff_not]
  by_cases w1 : X.2.2 8 s = 1
  · rw [if_pos w1, if_neg (fun q => q w1)]
    exact (i_person h hI (key (by omega))).b.im (fun X' Y' q => ⟨P + 1, N, m, q.2, by omega⟩)
  rw [if_neg w1, if_pos w1]
  by_cases w2 : X.2.2 8 s = 2
  · rw [if_pos w2, if_neg (fun q => q w2)]
    exact (i_ring h hI (key (by omega))).b.im (fun X' Y' q => ⟨P, N + 1, m, q.2, by omega⟩)
  rw [if_neg w2, if_pos w2]
  by_cases w3 : X.2.2 8 s = 3
  · rw [if_pos w3, if_neg (fun q => q w3)]
    exact (i_once (b := 0) (lo := 0) (hi := 5) h hI (key (by omega)) (by omega) (by omega) (by omega) (by omega)).b.im (fun X' Y' q => ⟨P, N, m ||| 2 ^ 0, q.2, by have := (once_b m hm 0 (by omega)).2.2 q.1; omega⟩)
  rw [if_neg w3, if_pos w3]
  by_cases w4 : X.2.2 8 s = 4
  · rw [if_pos w4, if_neg (fun q => q w4)]
    exact (i_once (b := 1) (lo := 1) (hi := 20) h hI (key (by omega)) (by omega) (by omega) (by omega) (by omega)).b.im (fun X' Y' q => ⟨P, N, m ||| 2 ^ 1, q.2, by have := (once_b m hm 1 (by omega)).2.2 q.1; omega⟩)
  rw [if_neg w4, if_pos w4]
  by_cases w5 : X.2.2 8 s = 5
  · rw [if_pos w5, if_neg (fun q => q w5)]
    exact (i_once (b := 2) (lo := 2) (hi := 9) h hI (key (by omega)) (by omega) (by omega) (by omega) (by omega)).b.im (fun X' Y' q => ⟨P, N, m ||| 2 ^ 2, q.2, by have := (once_b m hm 2 (by omega)).2.2 q.1; omega⟩)
  rw [if_neg w5, if_pos w5]
  right
  exact (p_fail h 1).b.w
/-! all lines -/
theorem IR.nxy {P N m k : Nat} {X Y X' Y' : MM} (h : IR P N m k X Y) (hX : ∀ a, 19 ≤ a → a ≤ 28 → ∀ j, (a ≠ 19 ∨ j ≠ 14) → X'.1 a j = X.1 a j) (l : X'.2 = X.2) (y3 : Y'.1 3 = Y.1 3) (y5 : Y'.2.1 5 = Y.2.1 5) (y20 : Y'.1 0 20 = Y.1 0 20) {k' : Nat} (x14 : X'.1 19 14 = nI k') (y19 : Y'.1 0 19 = nI k') : IR P N m k' X' Y' := by
  obtain ⟨a, ⟨c1, c2, c3, c4, c5, c6, c7⟩, d1, d2, d3, d4, d5, d6, d7, d8, d9⟩ := h
  refine ⟨by rw [y3]; exact a, ⟨?_, ?_, ?_, ?_, ?_, ?_, ?_⟩, d1.fr (fun p hp => by rw [l]) y5, d2.fr (fun p hp => by rw [l]) y5, d3, by rw [y20]; exact d4, by rw [hX 19 (by omega) (by omega) 15 (by omega)]; exact d5, by rw [hX 19 (by omega) (by omega) 16 (by omega)]; exact d6, by rw [hX 19 (by omega) (by omega) 17 (by omega)]; exact d7, x14, y19⟩
  · rw [y3, hX 19 (by omega) (by omega) 0 (by omega)]; exact c1
  · rw [y3, hX 19 (by omega) (by omega) 1 (by omega)]; exact c2
  · rw [y3, hX 19 (by omega) (by omega) 11 (by omega)]; exact c3
  · rw [y3, hX 19 (by omega) (by omega) 12 (by omega)]; exact c4
  · rw [y3, hX 19 (by omega) (by omega) 13 (by omega)]; exact c5
  · intro p hp
    rw [y3]
    show X'.1 21 p = _ ∧ X'.1 22 p = _ ∧ X'.1 23 p = _
    rw [hX 21 (by omega) (by omega) p (by omega), hX 22 (by omega) (by omega) p (by omega), hX 23 (by omega) (by omega) p (by omega)]
    exact c6 p hp
  · intro r hr
    rw [y3]
    show X'.1 25 r = _ ∧ X'.1 26 r = _ ∧ X'.1 27 r = _ ∧ X'.1 28 r = _
    rw [hX 25 (by omega) (by omega) r (by omega), hX 26 (by omega) (by omega) r (by omega), hX 27 (by omega) (by omega) r (by omega), hX 28 (by omega) (by omega) r (by omega)]
    exact c7 r hr
theorem popc3 : ∀ m, m < 8 → popc m ≤ 3 := by decide
theorem i_loop {T : TX} : ∀ c f g s P N m X Y, 17 - (P + N + popc m) ≤ c → c < f → c < g → LX T s X Y → IR P N m (P + N + popc m) X Y → (∃ s' X' Y' P' N' m' k', fX3_readFrom_4 f X = some (true, X') ∧ fX13_island_35 g Y = fX13_island_80 mx_fu 0 Y' ∧ WX X X' ∧ WY Y Y' ∧ LX T s' X' Y' ∧ IR P' N' m' k' X' Y') ∨ (∃ X' Y', fX3_readFrom_4 f X = some (false, X') ∧ fX13_island_35 g Y = some ((-1 : Int32) - Y'.1 0 16, Y') ∧ WX X X' ∧ WY Y Y' ∧ FL X' Y') := by
  intro c
  induction c with
  | zero =>
    intro f g s P N m X Y hc hf hg h hI
    have h7 := hI.P
    have h3 := popc3 m hI.2.2.2.2.1
    obtain ⟨f, rfl⟩ : ∃ z, f = z + 1 := ⟨f - 1, by omega⟩
    obtain ⟨g, rfl⟩ : ∃ z, g = z + 1 := ⟨g - 1, by omega⟩
    rw [fX3_readFrom_4, fX13_island_35, hI.2.2.2.2.2.2.2.2.2.1, if_neg (show ¬ ((17 : Int32) < nI (P + N + popc m)) from nI_nlt (b := 17 + 1 - 1) (a := 17) (by omega) (by omega) |> fun q z => by
      have e : P + N + popc m = 17 := by omega
      rw [e] at z
      exact absurd z (by decide)), p_isAt h]
    simp only [pb_bs, ← h.tk.end_]
    by_cases e : X.1 4 s = 1
    · rw [decide_eq_true e, if_neg b_t, if_pos e]
      left
      exact ⟨s, X, Y, P, N, m, _, rfl, rfl, WX.rf, WY.rf, h, hI⟩
    · rw [decide_eq_false e, if_pos b_f, if_neg e]
      rcases i_line h hI with ⟨s1, X1, Y1, a1, a2, a3, a4, a5, P', N', m', a6, a7⟩ | ⟨X', Y', a1, a2, a3, a4, a5⟩
      · have := a6.P
        have := popc3 m' a6.2.2.2.2.1
        omega
      · rw [a1, a2]
        simp only [pb_bs]
        rw [if_pos b_f, if_pos b_f]
        right
        exact ⟨X', Y', rfl, rfl, a3, a4, a5⟩
  | succ c ih =>
    intro f g s P N m X Y hc hf hg h hI
    have h7 := hI.P
    have h3 := popc3 m hI.2.2.2.2.1
    obtain ⟨f, rfl⟩ : ∃ z, f = z + 1 := ⟨f - 1, by omega⟩
    obtain ⟨g, rfl⟩ : ∃ z, g = z + 1 := ⟨g - 1, by omega⟩
    rw [fX3_readFrom_4, fX13_island_35, hI.2.2.2.2.2.2.2.2.2.1, if_neg (show ¬ ((17 : Int32) < nI (P + N + popc m)) from nI_nlt (a := 17) (b := P + N + popc m) (by omega) (by omega)), p_isAt h]
    simp only [pb_bs, ← h.tk.end_]
    by_cases e : X.1 4 s = 1
    · rw [decide_eq_true e, if_neg b_t, if_pos e]
      left
      exact ⟨s, X, Y, P, N, m, _, rfl, rfl, WX.rf, WY.rf, h, hI⟩
    · rw [decide_eq_false e, if_pos b_f, if_neg e]
      rcases i_line h hI with ⟨s1, X1, Y1, a1, a2, a3, a4, a5, P', N', m', a6, a7⟩ | ⟨X', Y', a1, a2, a3, a4, a5⟩
      · rw [a1, a2]
        simp only [pb_bs]
        rw [if_neg b_t, if_neg b_t, show (59 : Int32) = nI 59 from rfl]
        rcases p_sign (c := 59) a5 (by decide) (by omega) with ⟨s2, X2, Y2, b1, b2, b3, b4, b5, -⟩ | ⟨X', Y', b1, b2, b3, b4, b5⟩
        · rw [b1, b2]
          simp only [pb_bs]
          rw [if_neg b_t, if_neg b_t]
          have x14 : X2.1 19 14 = nI (P + N + popc m) := by rw [b3.row (by omega)]; exact a6.2.2.2.2.2.2.2.2.2.1
          have y19 : Y2.1 0 19 = nI (P + N + popc m) := by rw [b4.1 0 19 (by omega)]; exact a6.2.2.2.2.2.2.2.2.2.2
          rw [x14, y19, nI_1]
          have hI2 : IR P' N' m' (P' + N' + popc m') (mx_si X2 19 14 (nI (P + N + popc m + 1))) (mx_si Y2 0 19 (nI (P + N + popc m + 1))) := by
            refine a6.nxy (X' := mx_si X2 19 14 (nI (P + N + popc m + 1))) (Y' := mx_si Y2 0 19 (nI (P + N + popc m + 1))) (fun a q1 q2 j q3 => ?_) b3.2 ?_ ?_ ?_ ?_ ?_
            · rw [← b3.1 a j (by omega)]
              show (if _ then _ else _) = _
              rw [if_neg (by omega)]
            · rw [si_row (by omega), b4.row (by omega)]
            · exact b4.lrow (by omega)
            · rw [si_nj (by omega), b4.1 0 20 (by omega)]
            · rw [si_eq, a7]
            · rw [si_eq, a7]
          have wX : WX X (mx_si X2 19 14 (nI (P + N + popc m + 1))) := (a3.tr b3.w).si (by omega)
          have wY : WY Y (mx_si Y2 0 19 (nI (P + N + popc m + 1))) := (a4.tr b4.w).si (by omega)
          rcases ih f g s2 P' N' m' _ _ (by omega) (by omega) (by omega) ((b5.xs (by omega)).ys (by omega)) hI2 with ⟨s', X', Y', P2, N2, m2, k2, g1, g2, g3, g4, g5, g6⟩ | ⟨X', Y', g1, g2, g3, g4, g5⟩
          · left
            exact ⟨s', X', Y', P2, N2, m2, k2, g1, g2, wX.tr g3, wY.tr g4, g5, g6⟩
          · right
            exact ⟨X', Y', g1, g2, wX.tr g3, wY.tr g4, g5⟩
        · rw [b1, b2]
          simp only [pb_bs]
          rw [if_pos b_f, if_pos b_f]
          right
          exact ⟨X', Y', rfl, rfl, a3.tr b3.w, a4.tr b4.w, b5⟩
      · rw [a1, a2]
        simp only [pb_bs]
        rw [if_pos b_f, if_pos b_f]
        right
        exact ⟨X', Y', rfl, rfl, a3, a4, a5⟩
