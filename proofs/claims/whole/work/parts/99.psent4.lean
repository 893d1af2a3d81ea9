/-! a sentence: what comes behind an operand -/
theorem s48_op {T : TX} {P N s n t ones d f : Nat} {σ π : List Nat} {X Y : MM} (h : SR T P N s n t ones d σ π false X Y) : fX13_sentence_48 (f + 1) true Y = (fX13_operand Y).bind fun q => if (mx_b q.1) = 0 then some (((-1 : Int32) - (q.2.1 0 16)), q.2) else fX13_sentence_48 f true q.2 := by
  obtain ⟨-, -, -, -, -, ⟨-, -, h12⟩, -, -, -⟩ := h
  rw [fX13_sentence_48, if_neg b_t, h12, if_pos b_f, fX13_sentence_101, h12, if_pos b_f]
theorem s48_be {T : TX} {P N s n t ones d f : Nat} {σ π : List Nat} {X Y : MM} (h : SR T P N s n t ones d σ π true X Y) (h1 : X.1 4 s ≠ 1) : fX13_sentence_48 (f + 1) true Y = (fX13_behind Y).bind fun q => if (mx_b q.1) = 0 then some (((-1 : Int32) - (q.2.1 0 16)), q.2) else fX13_sentence_48 f true q.2 := by
  have h0 := h.1.tk.end_
  obtain ⟨-, -, -, -, -, ⟨-, -, h12⟩, -, -, -⟩ := h
  rw [fX13_sentence_48, if_neg b_t, h12, if_neg b_t, if_neg (by rw [← h0]; exact h1), fX13_sentence_101, h12, if_neg b_t]
/-- what waits is written: the nots, the ands (and the ors) -/
theorem s_flush {T : TX} {P N s n t ones d k tl : Nat} {σ τ : List Nat} {wh : Bool} {X Y : MM} (h : SR T P N s n t ones d σ (List.replicate k 20 ++ τ) wh X Y) (ht : 1 ≤ t) (htl : tl = 21 ∨ tl = 22) (hτ : ∀ o, o ∈ τ → o = 21 ∨ (o = 22 ∧ tl = 22)) (hσ : ∀ o ρ, σ = o :: ρ → o ≠ 20 ∧ o ≠ 21 ∧ (o = 22 → tl = 21)) : ∃ Y1 Y2, fX13_nots Y = some Y1 ∧ SR T P N s (n + k) t ones d σ τ wh X Y1 ∧ WY Y Y1 ∧ fX13_joins (nI tl) Y1 = some Y2 ∧ SR T P N s (n + k + τ.length) t ones d σ [] wh X Y2 ∧ WY Y Y2 := by
  have hl : k + τ.length ≤ 45 := by
    obtain ⟨-, -, -, -, ⟨-, -, h10⟩, -, -, -, -⟩ := h
    rw [List.length_append, List.length_append, List.length_replicate] at h10
    omega
  obtain ⟨Y1, a1, a2, a3⟩ := m_nots (T := T) (P := P) (N := N) (s := s) (t := t) (ones := ones) (d := d) (σ := σ) (π := τ) (wh := wh) (X := X) ht (fun o ρ e => by
    cases hτ' : τ with
    | nil =>
      rw [hτ', List.nil_append] at e
      exact (hσ o ρ e).1
    | cons p τ' =>
      rw [hτ', List.cons_append] at e
      have := hτ p (by rw [hτ']; exact List.mem_cons_self)
      injection e with e1 e2
      omega) k n mx_fu Y (by unfold mx_fu; omega) h
  obtain ⟨Y2, b1, b2, b3⟩ := m_joins (T := T) (P := P) (N := N) (s := s) (t := t) (ones := ones) (d := d) (σ := σ) (wh := wh) (X := X) htl ht (fun o ρ e => (hσ o ρ e).2) τ (n + k) mx_fu Y1 (by unfold mx_fu; omega) hτ a2
  exact ⟨Y1, Y2, a1, a2, a3, b1, b2, a3.tr b3⟩
/-- 'and', 'or' -/
theorem s_oper {T : TX} {P N s n t ones d k o f : Nat} {σ τ : List Nat} {X Y : MM} (h : SR T P N s n t ones d σ (List.replicate k 20 ++ τ) true X Y) (ht : 1 ≤ t) (ho : o = 21 ∨ o = 22) (hτ : ∀ p, p ∈ τ → p = 21 ∨ (p = 22 ∧ o = 22)) (hσ : ∀ p ρ, σ = p :: ρ → p ≠ 20 ∧ p ≠ 21 ∧ (p = 22 → o = 21)) (hk : X.2.2 8 s = 34 - o) (hl : σ.length < 45) : fX7_advance X = some (mx_si X 3 7 (nI (s + 1))) ∧ ∃ Y', fX13_sentence_48 (f + 1) true Y = fX13_sentence_48 f true Y' ∧ SR T P N (s + 1) (n + k + τ.length) t ones d (o :: σ) [] false (mx_si X 3 7 (nI (s + 1))) Y' ∧ WY Y Y' := by
  have x4 : X.1 4 s = 3 := h.1.tk.key (by rw [hk]; omega)
  obtain ⟨Y1, Y2, a1, a2, a3, b1, b2, b3⟩ := s_flush h ht ho hτ hσ
  have adv := (h.1.adv (by rw [x4]; decide) (by rw [x4]; decide)).1
  refine ⟨adv, ?_⟩
  have b2' := b2
  obtain ⟨c1, c2, ⟨c3, c4, c5⟩, ⟨c6, c7⟩, ⟨c8, c9, c10⟩, ⟨c11, c11', c12⟩, c13, c14, c15⟩ := b2
  rw [List.nil_append] at c8 c9 c10
  rw [cN, Nat.add_zero] at c11
  have hY3 : ∃ Y3, Y3 = mx_si (mx_si (mx_si Y2 17 σ.length (nI o)) 0 45 (nI (σ.length + 1))) 0 47 (0 : Int32) := ⟨_, rfl⟩
  obtain ⟨Y3, eY3⟩ := hY3
  have w3 : WY Y2 Y3 := by rw [eY3]; exact ((WY.rf.si (by omega)).si (by omega)).si (by omega)
  have L3 : LX T s X Y3 := by rw [eY3]; exact ((c1.ys (by omega)).ys (by omega)).ys (by omega)
  have s3 : SR T P N s (n + k + τ.length) t ones d (o :: σ) [] false X Y3 := by
    refine b2'.push hl (by omega) c11' L3 w3 (fun i hi => ?_) ?_ ?_ ?_ ?_ ?_ ?_ ?_
    · rw [eY3, si_nk (by omega), si_nk (by omega), si_nj hi]
    · rw [eY3, si_nk (by omega), si_nk (by omega), si_eq]
    · rw [eY3, si_nj (by omega), si_eq]
    · rw [eY3, si_nj (by omega), si_nj (by omega), si_nk (by omega)]; exact c11
    · rw [eY3, si_nj (by omega), si_nj (by omega), si_nk (by omega)]
    · rw [eY3, si_nj (by omega), si_nj (by omega), si_nk (by omega)]
    · rw [eY3, si_eq]; rfl
    · rw [eY3, si_row (by omega), si_row (by omega), si_row (by omega)]
  obtain ⟨d1, Y4, d2, d3, d4⟩ := L3.adv (by rw [x4]; decide) (by rw [x4]; decide)
  have w70 : fX13_behind_70 (Y2.1 0 45) (nI o) Y2 = some (true, Y4) := by
    rw [fX13_behind_70, c9, pb_gd hl (by omega), nI_clamp (by omega), si_nk (by omega), c9, nI_1, ← eY3, d2]
    rfl
  have iw1 := p_isWord a2.1 12 (by omega)
  have iw2 := p_isWord a2.1 11 (by omega)
  have iw3 := p_isWord c1 12 (by omega)
  have be : fX13_behind Y = some (true, Y4) := by
    rw [fX13_behind, a1, show (6385252 : Int64) = resW 12 from rfl, show (28530 : Int64) = resW 11 from rfl]
    simp only [pb_bs]
    rw [iw1, iw2]
    simp only [pb_bs]
    have b24 : fX13_behind_24 Y1 = some (true, Y4) := by
      rw [fX13_behind_24, show (6385252 : Int64) = resW 12 from rfl, iw1]
      simp only [pb_bs]
      rcases ho with rfl | rfl
      · rw [hk, decide_eq_true (show 34 - 21 = 12 + 1 by omega), if_neg b_t, fX13_behind_42]
        have b1' : fX13_joins 21 Y1 = some Y2 := b1
        rw [b1']
        simp only [pb_bs]
        rw [show (6385252 : Int64) = resW 12 from rfl, iw3]
        simp only [pb_bs]
        rw [hk, decide_eq_true (show 34 - 21 = 12 + 1 by omega), if_neg b_t]
        exact w70
      · rw [hk, decide_eq_false (show ¬ 34 - 22 = 12 + 1 by omega), if_pos b_f, fX13_behind_42]
        have b1' : fX13_joins 22 Y1 = some Y2 := b1
        rw [b1']
        simp only [pb_bs]
        rw [show (6385252 : Int64) = resW 12 from rfl, iw3]
        simp only [pb_bs]
        rw [hk, decide_eq_false (show ¬ 34 - 22 = 12 + 1 by omega), if_pos b_f]
        exact w70
    rw [b24]
    rcases ho with rfl | rfl
    · rw [hk, decide_eq_true (show 34 - 21 = 12 + 1 by omega), if_neg b_t]
    · rw [hk, decide_eq_false (show ¬ 34 - 22 = 12 + 1 by omega), if_pos b_f, decide_eq_true (show 34 - 22 = 11 + 1 by omega), if_neg b_t]
  refine ⟨Y4, ?_, (s3.s0.n (nX.rf.si (by omega)) d3.y).up d4, (b3.tr w3).tr d3.y.w⟩
  rw [s48_be h (by rw [x4]; decide), be]
  simp only [pb_bs]
  rw [if_neg b_t]
/-- a bracket's end, or what can't come -/
theorem s_close {T : TX} {P N s n t ones d k f : Nat} {σ τ : List Nat} {X Y : MM} (h : SR T P N s n t ones (d + 1) (23 :: σ) (List.replicate k 20 ++ τ) true X Y) (ht : 1 ≤ t) (hτ : ∀ p, p ∈ τ → p = 21 ∨ p = 22) (h12 : X.2.2 8 s ≠ 12) (h13 : X.2.2 8 s ≠ 13) : (∃ Y', fX7_takeSign 41 X = some (true, mx_si X 3 7 (nI (s + 1))) ∧ fX13_sentence_48 (f + 1) true Y = fX13_sentence_48 f true Y' ∧ SR T P N (s + 1) (n + k + τ.length) t ones d σ [] true (mx_si X 3 7 (nI (s + 1))) Y' ∧ WY Y Y') ∨ (∃ X' Y', fX7_takeSign 41 X = some (false, X') ∧ fX13_sentence_48 (f + 1) true Y = some ((-1 : Int32) - Y'.1 0 16, Y') ∧ WX X X' ∧ WY Y Y' ∧ FL X' Y') := by
  obtain ⟨Y1, Y2, a1, a2, a3, b1, b2, b3⟩ := s_flush (tl := 22) h ht (by omega) (fun o ho => by have := hτ o ho; omega) (fun o ρ e => by injection e with e1 e2; omega)
  have b1' : fX13_joins 22 Y1 = some Y2 := b1
  have g41 := p_isSign (c := 41) h.1 (by decide) (by omega)
  have g41' := p_isSign (c := 41) b2.1 (by decide) (by omega)
  have iw1 := p_isWord a2.1 12 (by omega)
  have iw2 := p_isWord a2.1 11 (by omega)
  have b2' := b2
  obtain ⟨c1, c2, ⟨c3, c4, c5⟩, ⟨c6, c7⟩, ⟨c8, c9, c10⟩, ⟨c11, c11', c12⟩, c13, c14, c15⟩ := b2
  rw [List.nil_append] at c8 c9 c10
  rw [cN, Nat.add_zero] at c11
  rw [List.length_cons] at c9 c10
  have g1 : fX7_isAtSign 41 X = some (decide (X.1 4 s = 5 ∧ X.1 6 s = nI 41)) := g41.1
  have g2 : fX13_isSign 41 Y2 = some (decide (X.1 4 s = 5 ∧ X.1 6 s = nI 41)) := g41'.2
  have be : fX13_behind Y = if X.1 4 s = 5 ∧ X.1 6 s = nI 41 then (fX13_next (mx_si (mx_si Y2 0 45 (nI σ.length)) 0 46 (nI d))).bind fun q141 => some (true, q141) else fX13_bad 1 Y2 := by
    rw [fX13_behind, a1, show (6385252 : Int64) = resW 12 from rfl, show (28530 : Int64) = resW 11 from rfl]
    simp only [pb_bs]
    rw [iw1, iw2]
    simp only [pb_bs]
    rw [decide_eq_false h13, if_pos b_f, decide_eq_false h12, if_pos b_f, b1']
    simp only [pb_bs]
    rw [g2]
    simp only [pb_bs]
    by_cases e : X.1 4 s = 5 ∧ X.1 6 s = nI 41
    · rw [decide_eq_true e, if_neg b_t, c9, if_neg (nI_ne0 (by omega) (by omega)), nI_pred, si_nj (by omega), c11, nI_pred, if_pos e]
    · rw [decide_eq_false e, if_pos b_f, if_neg e, fX13_behind_114, ob]
  by_cases e : X.1 4 s = 5 ∧ X.1 6 s = nI 41
  · left
    have ts : fX7_takeSign 41 X = some (true, mx_si X 3 7 (nI (s + 1))) := by
      rw [fX7_takeSign, g1]
      simp only [pb_bs]
      rw [decide_eq_true e, if_neg b_t, (h.1.adv (by rw [e.1]; decide) (by rw [e.1]; decide)).1]
      rfl
    have L3 := (c1.ys (k := 0) (j := 45) (v := nI σ.length) (by omega)).ys (k := 0) (j := 46) (v := nI d) (by omega)
    have w3 : WY Y2 (mx_si (mx_si Y2 0 45 (nI σ.length)) 0 46 (nI d)) := (WY.rf.si (by omega)).si (by omega)
    have s3 : SR0 P N (n + k + τ.length) t ones d σ [] true X (mx_si (mx_si Y2 0 45 (nI σ.length)) 0 46 (nI d)) := by
      refine ⟨c2.w WX.rf w3, ⟨c3, by rw [si_nj (by omega), si_nj (by omega)]; exact c4, c5⟩, ⟨by rw [si_nj (by omega), si_nj (by omega)]; exact c6, c7⟩, ⟨stR.fr _ (fun i _ => by rw [si_nk (by omega), si_nk (by omega)]) c8.2, by rw [si_nj (by omega), si_eq]; rfl, by rw [List.nil_append]; omega⟩, ⟨by rw [si_eq, cN, Nat.add_zero], by omega, by rw [si_nj (by omega), si_nj (by omega)]; exact c12⟩, c13, fun i hi => ?_, by rw [si_row (by omega), si_row (by omega)]; exact c15⟩
      rw [si_row (by omega), si_row (by omega)]
      exact c14 i hi
    obtain ⟨d1, Y4, d2, d3, d4⟩ := L3.adv (by rw [e.1]; decide) (by rw [e.1]; decide)
    refine ⟨Y4, ts, ?_, (s3.n (nX.rf.si (by omega)) d3.y).up d4, (b3.tr w3).tr d3.y.w⟩
    rw [s48_be h (by rw [e.1]; decide), be, if_pos e, d2]
    simp only [pb_bs]
    rw [if_neg b_t]
  · right
    obtain ⟨X', Y', q1, q2, q3, q4, q5⟩ := p_fail c1 1
    have ts : fX7_takeSign 41 X = some (false, X') := by
      rw [fX7_takeSign, g1]
      simp only [pb_bs]
      rw [decide_eq_false e, if_pos b_f, ob, q1]
    refine ⟨X', Y', ts, ?_, q3.w, b3.tr q4.w, q5⟩
    by_cases e1 : X.1 4 s = 1
    · have y11 : Y.1 0 11 = 0 := h.1.tk.end_.mp e1
      have y47 : Y.1 0 47 = mx_b true := by
        obtain ⟨-, -, -, -, -, ⟨-, -, z⟩, -, -, -⟩ := h
        exact z
      rw [fX13_sentence_48, if_neg b_t, y47, if_neg b_t, if_pos y11, a1]
      simp only [pb_bs]
      rw [b1']
      simp only [pb_bs]
      rw [c9, if_neg (nI_nle (by omega) (by omega)), q2]
      rfl
    · rw [s48_be h e1, be, if_neg e, q2]
      simp only [pb_bs]
      rw [if_pos b_f]
