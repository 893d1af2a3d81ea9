/-! a sentence: a one -/
theorem TK.sg0 {s : Nat} {X Y : MM} (h : TK s X Y) (h5 : X.1 4 s = 5) : X.2.2 8 s = 0 := by
  rcases h.2.2 with ⟨a1, a2, a3⟩ | ⟨a1, a2, a3⟩ | ⟨a1, a2, a3, a4, a5⟩ | ⟨v, hv, a1, a2, a3, a4, a5⟩ | ⟨c, hc, a1, a2, a3, a4, a5⟩
  · exact a2
  · exact a2
  · rw [a5] at h5
    split at h5 <;> exact absurd h5 (by decide)
  · exact a2
  · exact a2
theorem LO.ok {T : TX} {P N s s1 n t ones d f : Nat} {σ : List Nat} {X Y X1 Y1 : MM} {a b : Option (Bool × MM)} (h : LO T P N s1 n t (ones + 1) d σ X1 Y1 a b) (hs : s < s1) (hf : 2000 ≤ f + s1) (hX : WX X X1) (hY : WY Y Y1) (hb : fX13_operand Y = b) (h0 : SR T P N s n t ones d σ [] false X Y) : OK T P N s n t ones d (f + 1) σ X Y (fun _ => False) (fun _ => True) a ∨ FA (f + 1) X Y a := by
  rcases h with ⟨s', X', Y', a1, a2, a3, a4, a5, a6⟩ | ⟨X', Y', a1, a2, a3, a4, a5⟩
  · left
    refine ⟨s', X', Y', f, n + 1, ones + 1, 0, [], a1, ?_, fun o ho => absurd ho (by simp), ?_, hX.tr a3, hY.tr a4, by omega, by omega, by omega, by simp only [List.length_nil]; omega, trivial⟩
    · rw [s48_op h0, hb, a2]
      simp only [pb_bs]
      rw [if_neg b_t]
    · rw [List.replicate_zero, List.nil_append]; exact a5
  · right
    refine ⟨X', Y', a1, ?_, hX.tr a3, hY.tr a4, a5⟩
    rw [s48_op h0, hb, a2]
    simp only [pb_bs]
    rw [if_pos b_f]
theorem s_one {T : TX} {P N : Nat} : ∀ m d, 1 ≤ d → d ≤ 9 → 10 ≤ m + d → POne T P N d (xR1 m) := by
  intro m
  induction m with
  | zero => intro d h1 h2 h3; omega
  | succ m ih =>
    intro d hd1 hd9 hm f s n t ones σ X Y h hl hf
    obtain ⟨f, rfl⟩ : ∃ z, f = z + 1 := ⟨f - 1, by have := h.1.s941; omega⟩
    have hw := h.1.tk.2.1
    have g40 := p_isSign (c := 40) h.1 (by decide) (by omega)
    have g1 : fX7_isAtSign 40 X = some (decide (X.1 4 s = 5 ∧ X.1 6 s = nI 40)) := g40.1
    have g2 : fX13_isSign 40 Y = some (decide (X.1 4 s = 5 ∧ X.1 6 s = nI 40)) := g40.2
    have h' := h
    obtain ⟨c1, c2, ⟨c3, c4, c5⟩, ⟨c6, c7⟩, ⟨c8, c9, c10⟩, ⟨c11, c11', c12⟩, c13, c14, c15⟩ := h
    rw [List.nil_append] at c9
    rw [cN, Nat.add_zero] at c11
    have op0 : fX13_operand Y = if mx_b (decide (X.2.2 8 s = 13 + 1)) = 0 then if mx_b (decide (X.1 4 s = 5 ∧ X.1 6 s = nI 40)) = 0 then if 15 ≤ X.2.2 8 s then fX13_operand_38 (decide (X.2.2 8 s = 13 + 1)) (decide (X.1 4 s = 5 ∧ X.1 6 s = nI 40)) (nI (X.2.2 8 s - 15)) Y else fX13_bad 1 Y else fX13_operand_38 (decide (X.2.2 8 s = 13 + 1)) (decide (X.1 4 s = 5 ∧ X.1 6 s = nI 40)) (if 15 ≤ X.2.2 8 s then nI (X.2.2 8 s - 15) else -1) Y else fX13_operand_38 (decide (X.2.2 8 s = 13 + 1)) (decide (X.1 4 s = 5 ∧ X.1 6 s = nI 40)) (if 15 ≤ X.2.2 8 s then nI (X.2.2 8 s - 15) else -1) Y := by
      rw [fX13_operand, show (7237492 : Int64) = resW 13 from rfl, p_isWord c1 13 (by omega), g2, m_leaf c1]
      simp only [pb_bs, ob]
      by_cases e : 15 ≤ X.2.2 8 s
      · simp only [if_pos e]
        rw [if_pos (show (0 : Int32) ≤ nI (X.2.2 8 s - 15) from nI_pos' (by omega))]
      · simp only [if_neg e]
        rw [if_neg (show ¬ (0 : Int32) ≤ -1 by decide)]
    have cl0 : xR1 (m + 1) (nI d) X = if mx_b (decide (X.1 4 s = 5 ∧ X.1 6 s = nI 40)) = 0 then if mx_b (decide (14 ≤ X.2.2 8 s)) = 0 then fX7_fail 1 X else fX8_readOne_29 (fX8_readCond (fX8_readAll (xR1 m))) (xR1 m) (nI d) (decide (X.1 4 s = 5 ∧ X.1 6 s = nI 40)) X else fX8_readOne_29 (fX8_readCond (fX8_readAll (xR1 m))) (xR1 m) (nI d) (decide (X.1 4 s = 5 ∧ X.1 6 s = nI 40)) X := by
      rw [xR1, fX8_readOne, g1, p_key c1]
      simp only [pb_bs]
      rw [x_begins hw]
      simp only [pb_bs, ob]
    -- the limits
    have p29 : ∀ b, fX8_readOne_29 (fX8_readCond (fX8_readAll (xR1 m))) (xR1 m) (nI d) b X = if 20 ≤ ones ∨ 9 ≤ d then fX7_fail 4 X else (fX7_advance (mx_si X 134 4 (nI (ones + 1)))).bind fun q67 => if (mx_b b) = 0 then if X.2.2 8 s = 14 then (xR1 m (nI (d + 1)) q67).bind fun q116 => if (mx_b q116.1) = 0 then some (false, q116.2) else (fX8_put 14 (0 : Int32) (0 : Int32) q116.2).bind fun q130 => some (true, q130) else fX8_readPlain (X.2.2 8 s) q67 else (fX8_readCond (fX8_readAll (xR1 m)) (nI (d + 1)) q67).bind fun q81 => if (mx_b q81.1) = 0 then some (false, q81.2) else fX7_takeSign 41 q81.2 := by
      intro b
      have k1 := p_key (c1.xs (k := 134) (j := 4) (v := nI (ones + 1)) (by omega))
      have e20 : ((20 : Int32) ≤ nI ones) = (20 ≤ ones) := pb_le (a := 20) (by omega) (by omega)
      have e8 : (nI d ≤ (8 : Int32)) = (d ≤ 8) := pb_le (b := 8) (by omega) (by omega)
      have oe : ∀ a : Option (Bool × MM), (a.bind fun q90 => if (mx_b q90.1) = 0 then some (false, q90.2) else some (true, q90.2)) = a := fun a => by
        cases a with
        | none => rfl
        | some q =>
          obtain ⟨b, M⟩ := q
          cases b <;> rfl
      rw [fX8_readOne_29, c3, nI_1, nI_1, k1, fX8_readOne_44, ob]
      simp only [pb_bs, e20, e8, si_r2, hw, ↓reduceIte, ob, oe]
      by_cases z1 : 20 ≤ ones
      · rw [if_pos z1, if_pos (Or.inl z1)]
      · rw [if_neg z1]
        by_cases z2 : d ≤ 8
        · rw [if_pos z2, if_neg (by omega)]
        · rw [if_neg z2, if_pos (by omega)]
    have o38 : ∀ b1 b2 l, fX13_operand_38 b1 b2 l Y = if 20 ≤ ones ∨ 9 ≤ d then fX13_bad 4 Y else (fX13_next (mx_si Y 0 44 (nI (ones + 1)))).bind fun q73 => if (mx_b b1) = 0 then if (mx_b b2) = 0 then if (3 : Int32) ≤ l then if (5 : Int32) ≤ l then if ((mx_si q73 0 47 (1 : Int32)).1 0 11) = (3 : Int32) then if ((mx_si q73 0 47 (1 : Int32)).1 0 14) < (60 : Int32) then fX13_operand_232 (mx_si q73 0 47 (1 : Int32)) else if ((mx_si q73 0 47 (1 : Int32)).1 0 14) ≤ (62 : Int32) then (fX13_next (mx_si q73 0 47 (1 : Int32))).bind fun q245 => if (q245.1 0 11) = (2 : Int32) then (fX13_code l ((mx_si q73 0 47 (1 : Int32)).1 0 14) (q245.1 0 14) q245).bind fun q270 => (fX13_next q270).bind fun q274 => some (true, q274) else (fX13_bad (1 : Int32) q245).bind fun q258 => some (q258.1, q258.2) else fX13_operand_232 (mx_si q73 0 47 (1 : Int32)) else fX13_operand_232 (mx_si q73 0 47 (1 : Int32)) else if l = (3 : Int32) then (fX13_looksAt (7 : Int32) ((mx_si q73 0 47 (1 : Int32)).1 2 1) (mx_si q73 0 47 (1 : Int32))).bind fun q164 => fX13_operand_181 l q164.1 q164.2 else (fX13_looksAt (0 : Int32) ((mx_si q73 0 47 (1 : Int32)).1 2 0) (mx_si q73 0 47 (1 : Int32))).bind fun q178 => fX13_operand_181 l q178.1 q178.2 else (fX13_code l (0 : Int32) (0 : Int32) (mx_si q73 0 47 (1 : Int32))).bind fun q140 => some (true, q140) else fX13_operand_84 b1 q73 else fX13_operand_84 b1 q73 := by
      intro b1 b2 l
      have e20 : (nI ones = (20 : Int32)) = (ones = 20) := propext (nI_eq (b := 20) (by omega) (by omega))
      have e8 : (nI d ≤ (8 : Int32)) = (d ≤ 8) := pb_le (b := 8) (by omega) (by omega)
      have o56 : fX13_operand_56 Y = fX13_bad 4 Y := ob
      rw [fX13_operand_38, c4, c11, nI_1, o56]
      simp only [e20, e8]
      by_cases z1 : 20 ≤ ones
      · rw [if_pos (by omega), if_pos (Or.inl z1)]
      · rw [if_neg (by omega)]
        by_cases z2 : d ≤ 8
        · rw [if_pos z2, if_neg (by omega)]
        · rw [if_neg z2, if_pos (by omega)]
    have failB : ∀ k, FA (f + 1) X Y (fX7_fail k X) ∨ fX13_operand Y ≠ fX13_bad k Y := by
      intro k
      by_cases e : fX13_operand Y = fX13_bad k Y
      · left
        obtain ⟨X', Y', a1, a2, a3, a4, a5⟩ := p_fail c1 k
        refine ⟨X', Y', a1, ?_, a3.w, a4.w, a5⟩
        rw [s48_op h', e, a2]
        simp only [pb_bs]
        rw [if_pos b_f]
      · right; exact e
    have fail : ∀ k, fX13_operand Y = fX13_bad k Y → FA (f + 1) X Y (fX7_fail k X) := fun k e => (failB k).resolve_right (fun q => q e)
    by_cases hb : X.1 4 s = 5 ∧ X.1 6 s = nI 40
    · -- a bracket
      have w0 := c1.tk.sg0 hb.1
      rw [decide_eq_true hb, decide_eq_false (show ¬ X.2.2 8 s = 13 + 1 by omega), if_pos b_f, if_neg b_t, o38] at op0
      rw [cl0, decide_eq_true hb, if_neg b_t, p29]
      by_cases hlim : 20 ≤ ones ∨ 9 ≤ d
      · rw [if_pos hlim] at op0 ⊢
        right; exact fail 4 op0
      · rw [if_neg hlim] at op0 ⊢
        obtain ⟨X1, Y1, a1, a2, a3, a4, a5⟩ := h'.one (by rw [hb.1]; decide) (by rw [hb.1]; decide) (by omega)
        rw [a2] at op0
        rw [a1]
        simp only [pb_bs] at op0 ⊢
        rw [if_pos b_f, if_neg b_t, fX13_operand_84, if_pos b_f] at op0
        rw [if_neg b_t]
        have a3' := a3
        obtain ⟨e1, e2, ⟨e3, e4, e5⟩, ⟨e6, e7⟩, ⟨e8, e9, e10⟩, ⟨e11, e11', e12⟩, e13, e14, e15⟩ := a3
        rw [List.nil_append] at e9
        rw [cN, Nat.add_zero] at e11
        have hY2 : ∃ Y2, Y2 = mx_si (mx_si (mx_si Y1 17 σ.length (23 : Int32)) 0 45 (nI (σ.length + 1))) 0 46 (nI (d + 1)) := ⟨_, rfl⟩
        obtain ⟨Y2, eY2⟩ := hY2
        rw [fX13_operand_103, e9, pb_gd (by omega) (by omega), nI_clamp (by omega), si_nk (by omega), e9, nI_1, si_nj (by omega), si_nk (by omega), e11, nI_1, ← eY2] at op0
        have w2 : WY Y1 Y2 := by rw [eY2]; exact ((WY.rf.si (by omega)).si (by omega)).si (by omega)
        have s2 : SR T P N (s + 1) n t (ones + 1) (d + 1) (23 :: σ) [] false X1 Y2 := by
          refine a3'.push (by omega) (by omega) (by omega) (by rw [eY2]; exact ((e1.ys (by omega)).ys (by omega)).ys (by omega)) w2 (fun i hi => ?_) ?_ ?_ ?_ ?_ ?_ ?_ ?_
          · rw [eY2, si_nk (by omega), si_nk (by omega), si_nj hi]
          · rw [eY2, si_nk (by omega), si_nk (by omega), si_eq]; rfl
          · rw [eY2, si_nj (by omega), si_eq]
          · rw [eY2, si_eq]
          · rw [eY2, si_nj (by omega), si_nj (by omega), si_nk (by omega)]
          · rw [eY2, si_nj (by omega), si_nj (by omega), si_nk (by omega)]
          · rw [eY2, si_nj (by omega), si_nj (by omega), si_nk (by omega)]; exact e12
          · rw [eY2, si_row (by omega), si_row (by omega), si_row (by omega)]
        have r1 : fX13_sentence_48 (f + 1) true Y = fX13_sentence_48 f true Y2 := by
          rw [s48_op h', op0]
          simp only [pb_bs]
          rw [if_neg b_t]
        have one' := ih (d + 1) (by omega) (by omega) (by omega)
        have cond' := s_cond (s_all one' (by omega)) (by omega)
        rcases cond' f (s + 1) n t (ones + 1) (23 :: σ) X1 Y2 s2 (by rw [List.length_cons]; omega) (fun o ρ q => by injection q with q1 q2; exact q1.symm) (by omega) with ⟨s', X', Y', f', n', ones', k', τ', b1, b2, b3, b4, b5, b6, b7, b8, b9, b10, b11⟩ | ⟨X', Y', b1, b2, b3, b4, b5⟩
        · rw [b1]
          simp only [pb_bs]
          rw [if_neg b_t]
          obtain ⟨f', rfl⟩ : ∃ z, f' = z + 1 := ⟨f' - 1, by have := b4.1.s941; omega⟩
          rcases s_close (f := f') b4 (by omega) b3 b11.1 b11.2 with ⟨Y3, d1, d2, d3, d4⟩ | ⟨X3, Y3, d1, d2, d3, d4, d5⟩
          · left
            refine ⟨s' + 1, _, Y3, f', n' + k' + τ'.length, ones', 0, [], d1, (r1.trans b2).trans d2, fun o ho => absurd ho (by simp), ?_, (a4.tr b5).si (by omega), ((a5.tr w2).tr b6).tr d4, by omega, by omega, by omega, by simp only [List.length_nil]; omega, trivial⟩
            rw [List.replicate_zero, List.nil_append]; exact d3
          · right
            exact ⟨X3, Y3, d1, (r1.trans b2).trans d2, (a4.tr b5).tr d3, ((a5.tr w2).tr b6).tr d4, d5⟩
        · right
          rw [b1]
          simp only [pb_bs]
          rw [if_pos b_f]
          exact ⟨X', Y', rfl, r1.trans b2, a4.tr b3, (a5.tr w2).tr b4, b5⟩
    · rw [decide_eq_false hb] at op0
      rw [cl0, decide_eq_false hb, if_pos b_f]
      by_cases hw14 : 14 ≤ X.2.2 8 s
      · have x4 : X.1 4 s = 3 := c1.tk.key (by omega)
        rw [decide_eq_true hw14, if_neg b_t, p29]
        by_cases e14 : X.2.2 8 s = 14
        · -- not
          rw [decide_eq_true (show X.2.2 8 s = 13 + 1 from e14), if_neg b_t, o38] at op0
          by_cases hlim : 20 ≤ ones ∨ 9 ≤ d
          · rw [if_pos hlim] at op0 ⊢
            right; exact fail 4 op0
          · rw [if_neg hlim] at op0 ⊢
            obtain ⟨X1, Y1, a1, a2, a3, a4, a5⟩ := h'.one (by rw [x4]; decide) (by rw [x4]; decide) (by omega)
            rw [a2] at op0
            rw [a1]
            simp only [pb_bs] at op0 ⊢
            rw [if_neg b_t, fX13_operand_84, if_neg b_t] at op0
            rw [if_pos b_f, if_pos e14]
            have a3' := a3
            obtain ⟨e1, e2, ⟨e3, e4, e5⟩, ⟨e6, e7⟩, ⟨e8, e9, e10⟩, ⟨e11, e11', e12⟩, e13, e14', e15⟩ := a3
            rw [List.nil_append] at e9
            rw [cN, Nat.add_zero] at e11
            have hY2 : ∃ Y2, Y2 = mx_si (mx_si (mx_si Y1 17 σ.length (20 : Int32)) 0 45 (nI (σ.length + 1))) 0 46 (nI (d + 1)) := ⟨_, rfl⟩
            obtain ⟨Y2, eY2⟩ := hY2
            rw [fX13_operand_103, e9, pb_gd (by omega) (by omega), nI_clamp (by omega), si_nk (by omega), e9, nI_1, si_nj (by omega), si_nk (by omega), e11, nI_1, ← eY2] at op0
            have w2 : WY Y1 Y2 := by rw [eY2]; exact ((WY.rf.si (by omega)).si (by omega)).si (by omega)
            have s2 : SR T P N (s + 1) n t (ones + 1) (d + 1) (20 :: σ) [] false X1 Y2 := by
              refine a3'.push (by omega) (by omega) (by omega) (by rw [eY2]; exact ((e1.ys (by omega)).ys (by omega)).ys (by omega)) w2 (fun i hi => ?_) ?_ ?_ ?_ ?_ ?_ ?_ ?_
              · rw [eY2, si_nk (by omega), si_nk (by omega), si_nj hi]
              · rw [eY2, si_nk (by omega), si_nk (by omega), si_eq]; rfl
              · rw [eY2, si_nj (by omega), si_eq]
              · rw [eY2, si_eq]
              · rw [eY2, si_nj (by omega), si_nj (by omega), si_nk (by omega)]
              · rw [eY2, si_nj (by omega), si_nj (by omega), si_nk (by omega)]
              · rw [eY2, si_nj (by omega), si_nj (by omega), si_nk (by omega)]; exact e12
              · rw [eY2, si_row (by omega), si_row (by omega), si_row (by omega)]
            have r1 : fX13_sentence_48 (f + 1) true Y = fX13_sentence_48 f true Y2 := by
              rw [s48_op h', op0]
              simp only [pb_bs]
              rw [if_neg b_t]
            have one' := ih (d + 1) (by omega) (by omega) (by omega)
            rcases one' f (s + 1) n t (ones + 1) (20 :: σ) X1 Y2 s2 (by rw [List.length_cons]; omega) (by omega) with ⟨s', X', Y', f', n', ones', k', τ', b1, b2, b3, b4, b5, b6, b7, b8, b9, b10, b11⟩ | ⟨X', Y', b1, b2, b3, b4, b5⟩
            · have t0 : τ' = [] := by
                cases τ' with
                | nil => rfl
                | cons p q => exact absurd (b3 p List.mem_cons_self) (fun z => z)
              subst t0
              rw [List.append_nil] at b4
              rw [List.length_nil, Nat.add_zero] at b10
              have c7' : n + t ≤ 2 * ones := by rw [List.length_nil, Nat.add_zero] at c7; exact c7
              obtain ⟨X2, q1, q2, q3⟩ := b4.put (t := t + 1) (d := d) (o := 20) (Or.inl ⟨rfl, rfl, rfl⟩) (by omega) (by rw [List.length_replicate]; omega)
              have q1' : fX8_put 14 0 0 X' = some X2 := q1
              rw [b1]
              simp only [pb_bs]
              rw [if_neg b_t, q1']
              simp only [pb_bs]
              left
              refine ⟨s', X2, Y', f', n', ones', k' + 1, [], rfl, r1.trans b2, fun o ho => absurd ho (by simp), ?_, (a4.tr b5).tr q3, (a5.tr w2).tr b6, by omega, b8, by omega, by simp only [List.length_nil]; omega, trivial⟩
              rw [List.append_nil, List.replicate_succ']; exact q2
            · right
              rw [b1]
              simp only [pb_bs]
              rw [if_pos b_f]
              exact ⟨X', Y', rfl, r1.trans b2, a4.tr b3, (a5.tr w2).tr b4, b5⟩
        · -- a leaf
          rw [decide_eq_false (show ¬ X.2.2 8 s = 13 + 1 from e14), if_pos b_f, if_pos b_f, if_pos (by omega), o38] at op0
          by_cases hlim : 20 ≤ ones ∨ 9 ≤ d
          · rw [if_pos hlim] at op0 ⊢
            right; exact fail 4 op0
          · rw [if_neg hlim] at op0 ⊢
            obtain ⟨X1, Y1, a1, a2, a3, a4, a5⟩ := h'.one (by rw [x4]; decide) (by rw [x4]; decide) (by omega)
            rw [a2] at op0
            rw [a1]
            simp only [pb_bs] at op0 ⊢
            rw [if_pos b_f, if_pos b_f] at op0
            rw [if_pos b_f, if_neg e14]
            obtain ⟨l, hl8, el⟩ : ∃ l, l ≤ 8 ∧ X.2.2 8 s = 15 + l := ⟨X.2.2 8 s - 15, by omega, by omega⟩
            rw [el, show 15 + l - 15 = l by omega] at op0
            rw [el]
            have sF : SR T P N (s + 1) n t (ones + 1) d σ [] true X1 (mx_si Y1 0 47 (1 : Int32)) := a3.flag (w2 := true)
            have wF : WY Y (mx_si Y1 0 47 (1 : Int32)) := a5.si (by omega)
            have hz : n + 1 + (t + 1) ≤ 2 * (ones + 1) := by rw [List.length_nil, Nat.add_zero] at c7; omega
            have l3 : ((3 : Int32) ≤ nI l) = (3 ≤ l) := pb_le (a := 3) (by omega) (by omega)
            have l5 : ((5 : Int32) ≤ nI l) = (5 ≤ l) := pb_le (a := 5) (by omega) (by omega)
            have l3' : (nI l = (3 : Int32)) = (l = 3) := propext (nI_eq (b := 3) (by omega) (by omega))
            simp only [l3, l5, l3'] at op0
            obtain ⟨x1, x2, x3, x4', x5⟩ := xsw_l l (by omega)
            have hS1 := sF.2.1
            by_cases q3 : 3 ≤ l
            · rw [if_pos q3] at op0
              by_cases q5 : 5 ≤ l
              · rw [if_pos q5] at op0
                have pl : fX8_readPlain (15 + l) X1 = (fX8_signAt X1).bind fun q116 => (fX7_takeSign q116 X1).bind fun q124 => if (mx_b q124.1) = 0 then some (false, q124.2) else (fX7_takeNumber (0 : Int32) (999 : Int32) q124.2).bind fun q135 => if (mx_b q135.1) = 0 then some (false, q135.2) else (fX8_putTaken (15 + l) q116 q135.2).bind fun q146 => if (mx_b q146.1) = 0 then some (false, q146.2) else some (true, q146.2) := by
                  rw [fX8_readPlain, if_pos (by omega)]
                  simp only [propext x1, propext x2, propext x3, propext x4', propext x5]
                  rw [if_neg (by omega), if_neg (by omega), if_neg (by omega), if_neg (by omega), if_neg (by omega)]
                rw [pl]
                exact (o_leaf5 sF ⟨q5, hl8⟩ hz).ok (by omega) (by omega) a4 wF op0 h'
              · rw [if_neg q5] at op0
                by_cases z3 : l = 3
                · rw [if_pos z3] at op0
                  have pl : fX8_readPlain (15 + l) X1 = (fX7_takeNamed (fnd (fun p => decide (X1.2.1 14 p = X1.2.1 7 (s + 1))) N) X1).bind fun q62 => if (mx_b q62.1) = 0 then some (false, q62.2) else (fX8_putTaken (15 + l) (0 : Int32) q62.2).bind fun q72 => if (mx_b q72.1) = 0 then some (false, q72.2) else some (true, q72.2) := by
                    rw [fX8_readPlain, if_pos (by omega)]
                    simp only [propext x1, propext x2, propext x3, propext x4', propext x5]
                    rw [if_neg (by omega), if_neg (by omega), if_neg (by omega), if_pos z3, p_name sF.1]
                    simp only [pb_bs]
                    rw [x_rNamed hS1.2.2.2.1 hS1.2.1]
                    simp only [pb_bs]
                  rw [hS1.2.2.2.2.2.1] at op0
                  rw [pl]
                  exact (o_leaf3 (b := 7) sF (Or.inl ⟨z3, rfl⟩) hS1.2.2.2.2.2.2.2 hz).ok (by omega) (by omega) a4 wF op0 h'
                · rw [if_neg z3] at op0
                  have pl : fX8_readPlain (15 + l) X1 = (fX7_takeNamed (fnd (fun p => decide (X1.2.1 10 p = X1.2.1 7 (s + 1))) P) X1).bind fun q62 => if (mx_b q62.1) = 0 then some (false, q62.2) else (fX8_putTaken (15 + l) (0 : Int32) q62.2).bind fun q72 => if (mx_b q72.1) = 0 then some (false, q72.2) else some (true, q72.2) := by
                    rw [fX8_readPlain, if_pos (by omega)]
                    simp only [propext x1, propext x2, propext x3, propext x4', propext x5]
                    rw [if_neg (by omega), if_neg (by omega), if_neg (by omega), if_neg z3, if_pos (by omega), p_name sF.1]
                    simp only [pb_bs]
                    rw [x_pNamed hS1.2.2.1 hS1.1]
                    simp only [pb_bs]
                  rw [hS1.2.2.2.2.1] at op0
                  rw [pl]
                  exact (o_leaf3 (b := 0) sF (Or.inr ⟨by omega, rfl⟩) hS1.2.2.2.2.2.2.1 hz).ok (by omega) (by omega) a4 wF op0 h'
            · rw [if_neg q3] at op0
              exact (o_leaf0 sF (by omega) hz).ok (by omega) (by omega) a4 wF op0 h'
      · rw [decide_eq_false hw14, if_pos b_f]
        rw [decide_eq_false (show ¬ X.2.2 8 s = 13 + 1 by omega), if_pos b_f, if_pos b_f, if_neg (by omega)] at op0
        right; exact fail 1 op0
