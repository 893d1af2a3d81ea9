/-! draws -/
-- sealed: the kernel must never unfold a product by 1103515245
theorem seed_ex : ∃ f : Int32 → Int32, ∀ x, f x = x * (1103515245 : Int32) + (12345 : Int32) := ⟨_, fun _ => rfl⟩
noncomputable def sSeed : Int32 → Int32 := Classical.choose seed_ex
theorem sSeed_eq (x : Int32) : sSeed x = x * (1103515245 : Int32) + (12345 : Int32) := Classical.choose_spec seed_ex x
theorem dr_ex : ∃ f : Int32 → Nat → Nat, ∀ x d, f x d = (sSeed x).toBitVec.toNat / 256 % d := ⟨_, fun _ _ => rfl⟩
noncomputable def sDr : Int32 → Nat → Nat := Classical.choose dr_ex
theorem sDr_eq (x : Int32) (d : Nat) : sDr x d = (sSeed x).toBitVec.toNat / 256 % d := Classical.choose_spec dr_ex x d
theorem ushr8 (x : Int32) : mx_ushr x (8 : Int32) = nI (x.toBitVec.toNat / 256) := by
  have h := pk_ushrN (n := x.toBitVec.toNat) x.toBitVec.isLt (8 : Int32) 8 (by decide)
  rw [nI_val] at h
  exact h
theorem dr_val {x : Int32} {d : Nat} (h1 : 1 ≤ d) (h2 : d ≤ 1000) : mx_ushr (sSeed x) (8 : Int32) - mx_ushr (sSeed x) (8 : Int32) / nI d * nI d = nI (sDr x d) := by
  have h : (sSeed x).toBitVec.toNat < 2 ^ 32 := (sSeed x).toBitVec.isLt
  rw [ushr8, pk_rem (by omega) (by omega) (by omega), sDr_eq]
theorem sDr_lt {x : Int32} {d : Nat} (h : 1 ≤ d) : sDr x d < d := by rw [sDr_eq]; exact Nat.mod_lt _ (by omega)
/-- the reference's memory with seed x and row S -/
def mS (M : MM) (x : Int32) (S : Nat → Int32) : MM := mx_si (sS M S) 0 38 x
theorem mS_2 {M : MM} {x : Int32} {S : Nat → Int32} : (mS M x S).1 2 = S := by rw [mS, si_row (by omega), sS_2]
theorem mS_x {M : MM} {x : Int32} {S : Nat → Int32} : (mS M x S).1 0 38 = x := si_eq
theorem mS_si {M : MM} {x y : Int32} {S : Nat → Int32} : mx_si (mS M x S) 0 38 y = mS M y S := by
  refine Prod.ext ?_ rfl
  funext a b
  by_cases h : a = 0 ∧ b = 38 <;> simp [mS, mx_si, h]
theorem mS_S {M : MM} {x : Int32} {S T : Nat → Int32} : sS (mS M x S) T = mS M x T := by
  refine Prod.ext ?_ rfl
  funext a b
  by_cases h2 : a = 2
  · subst h2
    simp [mS, mx_si, sS]
  · simp [mS, mx_si, sS, h2]
theorem mS_0 {M : MM} {x : Int32} : mx_si M 0 38 x = mS M x (M.1 2) := by rw [mS, sS_self]
theorem m_draw {d : Nat} {M : MM} {x : Int32} {S : Nat → Int32} (h1 : 1 ≤ d) (h2 : d ≤ 1000) : fX13_draw (nI d) (mS M x S) = some (nI (sDr x d), mS M (sSeed x) S) := by
  rw [fX13_draw, if_neg (nI_ne0 (by omega) (by omega)), mS_x, si_eq, mS_si, ← sSeed_eq, dr_val h1 h2]
theorem x_draw {o d : Nat} {X : MM} (h1 : 1 ≤ d) (h2 : d ≤ 1000) : fX9_draw o (nI d) X = some (nI (sDr (X.1 o 12) d), mx_si X o 12 (sSeed (X.1 o 12))) := by
  have h3 : (1 : Int32) ≤ nI d := by rw [c1, pb_le (by omega) (by omega)]; exact h1
  rw [fX9_draw, if_pos h3, if_neg (nI_ne0 (by omega) (by omega)), si_eq, ← sSeed_eq, dr_val h1 h2]
noncomputable def sDrawP (P N q : Nat) (z : Int32 × (Nat → Int32)) : Int32 × (Nat → Int32) :=
  let w := sDr z.1 6
  let x1 := sSeed z.1
  if w < 2 then
    (sSeed (sSeed x1), if sWhyGo z.2 q (nI (sDr x1 21)) (nI (sDr (sSeed x1) 21)) = 0 then sGo z.2 q (nI (sDr x1 21)) (nI (sDr (sSeed x1) 21)) else z.2)
  else if w = 2 then
    if N = 0 then (x1, z.2) else (sSeed (sSeed x1), if sWhyHand z.2 q (sDr x1 N) (sDr (sSeed x1) P) = 0 then sHand z.2 (sDr x1 N) (sDr (sSeed x1) P) else z.2)
  else if w = 3 then
    if N = 0 then (x1, z.2) else (sSeed x1, if sWhyWear z.2 N q (sDr x1 N) = 0 then upd z.2 (85 + sDr x1 N) 1 else z.2)
  else if w = 4 then (x1, if sWorn z.2 N (nI q) = -1 then z.2 else sDoff z.2 N q)
  else (x1, z.2)
theorem m_isIn {a lo hi : Nat} {M : MM} (ha : a < 2 ^ 31) (hl : lo < 2 ^ 31) (hh : hi < 2 ^ 31) : fX13_isIn (nI a) (nI lo) (nI hi) M = some (decide (lo ≤ a) && decide (a ≤ hi)) := by
  rw [fX13_isIn]
  simp only [pb_lt ha hl, pb_lt hh ha]
  by_cases h1 : a < lo
  · rw [if_pos h1]
    simp; omega
  · by_cases h2 : hi < a
    · rw [if_neg h1, if_pos h2]
      simp; omega
    · rw [if_neg h1, if_neg h2]
      simp; omega
theorem sDrawP_L {P N q : Nat} {x : Int32} {S S0 : Nat → Int32} (h : sameL S0 S) : sameL S0 (sDrawP P N q (x, S)).2 := by
  unfold sDrawP
  simp only
  split
  · simp only
    split
    · exact (((h.up (by omega)).up (by omega)).up (by omega)).up (by omega)
    · exact h
  · split
    · split
      · exact h
      · simp only
        split
        · exact (h.up (by omega)).up (by omega)
        · exact h
    · split
      · split
        · exact h
        · simp only
          split
          · exact h.up (by omega)
          · exact h
      · split
        · simp only
          split
          · exact h
          · exact h.up (by omega)
        · exact h
theorem sDoff_W {S : Nat → Int32} {P N q : Nat} (hP : P ≤ 7) (hN : N ≤ 7) (hW : wSt S P N) (h : sWorn S N (nI q) ≠ -1) : wSt (sDoff S N q) P N := wSt_how hP hN hW (sWorn_is hN h).2.1 (Or.inl rfl)
theorem sDrawP_W {P N q : Nat} {x : Int32} {S : Nat → Int32} (hP : P ≤ 7) (hN : N ≤ 7) (hq : q < P) (h : wSt S P N) : wSt (sDrawP P N q (x, S)).2 P N := by
  unfold sDrawP
  simp only
  split
  · simp only
    split
    · rename_i hw
      exact wSt_go hP hN h hq (by have := sDr_lt (x := sSeed x) (d := 21) (by omega); omega) (by have := sDr_lt (x := sSeed (sSeed x)) (d := 21) (by omega); omega) hw
    · exact h
  · split
    · split
      · exact h
      · simp only
        split
        · exact wSt_hand hP hN h (sDr_lt (by omega)) (sDr_lt (by omega))
        · exact h
    · split
      · split
        · exact h
        · simp only
          split
          · exact wSt_how hP hN h (sDr_lt (by omega)) (Or.inr (Or.inl rfl))
          · exact h
      · split
        · simp only
          split
          · exact h
          · rename_i hw
            exact sDoff_W hP hN h hw
        · exact h
theorem m_drawPerson {M : MM} {P N q : Nat} {x : Int32} {S : Nat → Int32} (hL : wLd S P N) (hW : wSt S P N) (hq : q < P) : fX13_drawPerson (nI q) (mS M x S) = some (mS M (sDrawP P N q (x, S)).1 (sDrawP P N q (x, S)).2) := by
  obtain ⟨e0, hP, e1, hN, -⟩ := id hL
  have hw := sDr_lt (x := x) (d := 6) (by omega)
  rw [fX13_drawPerson, c6, m_draw (by omega) (by omega)]
  simp only [pb_bs]
  rw [c2]
  simp only [pb_le (show 2 < 2 ^ 31 by omega) (show sDr x 6 < 2 ^ 31 by omega)]
  by_cases h2 : sDr x 6 < 2
  · have e : sDrawP P N q (x, S) = (sSeed (sSeed (sSeed x)), if sWhyGo S q (nI (sDr (sSeed x) 21)) (nI (sDr (sSeed (sSeed x)) 21)) = 0 then sGo S q (nI (sDr (sSeed x) 21)) (nI (sDr (sSeed (sSeed x)) 21)) else S) := by
      simp only [sDrawP]
      rw [if_pos h2]
    have h2' : ¬ 2 ≤ sDr x 6 := by omega
    rw [if_neg h2', e, c21, m_draw (by omega) (by omega)]
    simp only [pb_bs]
    rw [m_draw (by omega) (by omega)]
    simp only [pb_bs]
    rw [m_whyGo (by omega), mS_2, m_goes (by omega), mS_2, mS_S]
    simp only [pb_bs]
    have tail : ∀ (T : Nat → Int32) (y : Int32), fX13_drawPerson_46 (nI q) (nI (sDr x 6)) (mS M y T) = some (mS M y T) := by
      intro T y
      have n4 : ¬ nI (sDr x 6) = nI 4 := by rw [propext (nI_eq (by omega) (by omega))]; omega
      rw [fX13_drawPerson_46, c4, if_neg n4, fX13_drawPerson_73, c2, c3, m_isIn (by omega) (by omega) (by omega)]
      simp only [pb_bs, pb_b0]
      rw [if_pos (by simp; omega)]
    rw [tail, tail]
    split <;> rfl
  · have h2' : 2 ≤ sDr x 6 := by omega
    rw [if_pos h2', fX13_drawPerson_46, c4]
    simp only [propext (nI_eq (show sDr x 6 < 2 ^ 31 by omega) (show 4 < 2 ^ 31 by omega))]
    rw [m_wornBy hN (by rw [mS_2]; exact e1), mS_2]
    simp only [pb_bs, sWorn_neg hN]
    have t73 : ∀ T y, sDr x 6 = 4 ∨ sDr x 6 = 5 → fX13_drawPerson_73 (nI q) (nI (sDr x 6)) (mS M y T) = some (mS M y T) := by
      intro T y h
      rw [fX13_drawPerson_73, c2, c3, m_isIn (by omega) (by omega) (by omega)]
      simp only [pb_bs, pb_b0]
      rw [if_pos (by simp; omega)]
    by_cases h4 : sDr x 6 = 4
    · have n2 : ¬ sDr x 6 = 2 := by omega
      have n3 : ¬ sDr x 6 = 3 := by omega
      have e : sDrawP P N q (x, S) = (sSeed x, if sWorn S N (nI q) = -1 then S else sDoff S N q) := by
        simp only [sDrawP]
        rw [if_neg h2, if_neg n2, if_neg n3, if_pos h4]
      rw [if_pos h4, e]
      by_cases hwn : sWorn S N (nI q) = -1
      · rw [if_pos hwn, if_pos hwn, t73 _ _ (Or.inl h4)]
      · obtain ⟨e, hk, -, -⟩ := sWorn_is hN hwn
        rw [if_neg hwn, if_neg hwn, e, c85]
        simp only [nI_add]
        rw [pb_gd (by omega) (by omega), nI_clamp (by omega), sS_0, mS_2, mS_S, t73 _ _ (Or.inl h4)]
        rfl
    · rw [if_neg h4]
      by_cases h5 : sDr x 6 = 5
      · have n2 : ¬ sDr x 6 = 2 := by omega
        have n3 : ¬ sDr x 6 = 3 := by omega
        have e : sDrawP P N q (x, S) = (sSeed x, S) := by
          simp only [sDrawP]
          rw [if_neg h2, if_neg n2, if_neg n3, if_neg h4]
        rw [t73 _ _ (Or.inr h5), e]
      · rw [fX13_drawPerson_73, c2, c3, m_isIn (by omega) (by omega) (by omega)]
        simp only [pb_bs, pb_b0]
        rw [if_neg (by simp; omega), mS_2, e1, c0]
        simp only [propext (nI_eq (show N < 2 ^ 31 by omega) (show 0 < 2 ^ 31 by omega)), propext (nI_eq (show sDr x 6 < 2 ^ 31 by omega) (show 3 < 2 ^ 31 by omega))]
        by_cases hN0 : N = 0
        · have e : sDrawP P N q (x, S) = (sSeed x, S) := by
            simp only [sDrawP]
            rw [if_neg h2]
            by_cases n2 : sDr x 6 = 2
            · rw [if_pos n2, if_pos hN0]
            · have n3 : sDr x 6 = 3 := by omega
              rw [if_neg n2, if_pos n3, if_pos hN0]
          rw [if_pos hN0, e]
        · have hr := sDr_lt (x := sSeed x) (d := N) (by omega)
          rw [if_neg hN0, m_draw (by omega) (by omega)]
          simp only [pb_bs]
          by_cases h3 : sDr x 6 = 3
          · have n2 : ¬ sDr x 6 = 2 := by omega
            have e : sDrawP P N q (x, S) = (sSeed (sSeed x), if sWhyWear S N q (sDr (sSeed x) N) = 0 then upd S (85 + sDr (sSeed x) N) 1 else S) := by
              simp only [sDrawP]
              rw [if_neg h2, if_neg n2, if_pos h3, if_neg hN0]
            rw [if_pos h3, e, m_whyWear hN (by rw [mS_2]; exact e1) (by omega) (by omega), mS_2]
            simp only [pb_bs, c85, nI_add]
            rw [pb_gd (by omega) (by omega), nI_clamp (by omega), sS_0, mS_2, mS_S, nI_0]
            split <;> rfl
          · have h22 : sDr x 6 = 2 := by omega
            have ht := sDr_lt (x := sSeed (sSeed x)) (d := P) (by omega)
            have e : sDrawP P N q (x, S) = (sSeed (sSeed (sSeed x)), if sWhyHand S q (sDr (sSeed x) N) (sDr (sSeed (sSeed x)) P) = 0 then sHand S (sDr (sSeed x) N) (sDr (sSeed (sSeed x)) P) else S) := by
              simp only [sDrawP]
              rw [if_neg h2, if_pos h22, if_neg hN0]
            rw [if_neg h3, e, mS_2, e0, m_draw (by omega) (by omega)]
            simp only [pb_bs]
            rw [m_whyHand (P := P) (N := N) (by rw [mS_2]; exact hW) hP hq (by omega) ht, m_hands (by omega), mS_2, mS_S, nI_0]
            simp only [pb_bs]
            split <;> rfl
/-! the class -/
theorem rSt_seed {o P N : Nat} {X : MM} {S : Nat → Int32} {v : Int32} (hR : rSt o X S P N) : rSt o (mx_si X o 12 v) S P N := by
  obtain ⟨g1, g2, g3, g4, g5⟩ := hR
  refine ⟨?_, ?_, ?_, fun p hp => ?_, fun r hr => ?_⟩
  · simp (disch := omega) only [si_nj]; exact g1
  · simp (disch := omega) only [si_nj]; exact g2
  · simp (disch := omega) only [si_nj]; exact g3
  · simp (disch := omega) only [si_nk]; exact g4 p hp
  · simp (disch := omega) only [si_nk]; exact g5 r hr
theorem x_drawAct {o q P N : Nat} {X : MM} {x : Int32} {S : Nat → Int32} (ho : 29 ≤ o) (hL : wLd S P N) (hS : wSt S P N) (hX : rLd X S P N) (hR : rSt o X S P N) (hx : X.1 o 12 = x) (hq : q < P) : ∃ X', fX9_drawAct o (nI q) X = some X' ∧ xFr o X X' ∧ X'.1 o 12 = (sDrawP P N q (x, S)).1 ∧ rSt o X' (sDrawP P N q (x, S)).2 P N := by
  obtain ⟨e0, hP, e1, hN, -⟩ := id hL
  have hw := sDr_lt (x := x) (d := 6) (by omega)
  have f1 : ∀ {v}, xFr o X (mx_si X o 12 v) := xFr.rf.si (by omega)
  rw [fX9_drawAct, c6, x_draw (by omega) (by omega), hx]
  simp only [pb_bs]
  rw [c0, c1, c2, c3, c4]
  simp only [propext (nI_eq (show sDr x 6 < 2 ^ 31 by omega) (show 0 < 2 ^ 31 by omega)), propext (nI_eq (show sDr x 6 < 2 ^ 31 by omega) (show 1 < 2 ^ 31 by omega)), propext (nI_eq (show sDr x 6 < 2 ^ 31 by omega) (show 2 < 2 ^ 31 by omega)), propext (nI_eq (show sDr x 6 < 2 ^ 31 by omega) (show 3 < 2 ^ 31 by omega)), propext (nI_eq (show sDr x 6 < 2 ^ 31 by omega) (show 4 < 2 ^ 31 by omega))]
  have hR1 : rSt o (mx_si X o 12 (sSeed x)) S P N := rSt_seed hR
  have hL1 : rLd (mx_si X o 12 (sSeed x)) S P N := f1.ld ho hX
  have go : sDr x 6 < 2 → ∃ X', ((fX9_draw o (nI 21) (mx_si X o 12 (sSeed x))).bind fun q43 => (fX9_draw o (nI 21) q43.2).bind fun q50 => (fX9_walkTo o (nI q) q43.1 q50.1 q50.2).bind fun q58 => some q58.2) = some X' ∧ xFr o X X' ∧ X'.1 o 12 = (sDrawP P N q (x, S)).1 ∧ rSt o X' (sDrawP P N q (x, S)).2 P N := by
    intro h2
    have e : sDrawP P N q (x, S) = (sSeed (sSeed (sSeed x)), if sWhyGo S q (nI (sDr (sSeed x) 21)) (nI (sDr (sSeed (sSeed x)) 21)) = 0 then sGo S q (nI (sDr (sSeed x) 21)) (nI (sDr (sSeed (sSeed x)) 21)) else S) := by
      simp only [sDrawP]
      rw [if_pos h2]
    rw [e, x_draw (by omega) (by omega), si_eq]
    simp only [pb_bs]
    rw [x_draw (by omega) (by omega), si_eq]
    simp only [pb_bs]
    obtain ⟨Y, a1, a2, a3, a4, a5⟩ := x_walkTo (x := nI (sDr (sSeed x) 21)) (y := nI (sDr (sSeed (sSeed x)) 21)) (rSt_seed (v := sSeed (sSeed (sSeed x))) (rSt_seed (v := sSeed (sSeed x)) hR1)) hq hP hN
    rw [a1]
    simp only [pb_bs]
    refine ⟨Y, rfl, ((f1.si (by omega)).si (by omega)).tr a2, a3.trans si_eq, ?_⟩
    by_cases h : sWhyGo S q (nI (sDr (sSeed x) 21)) (nI (sDr (sSeed (sSeed x)) 21)) = 0
    · rw [if_pos h]
      exact a5 h
    · rw [if_neg h, a4 h]
      exact rSt_seed (rSt_seed hR1)
  by_cases h0 : sDr x 6 = 0
  · rw [if_pos h0, c21]
    exact go (by omega)
  rw [if_neg h0]
  by_cases h1 : sDr x 6 = 1
  · rw [if_pos h1, c21]
    exact go (by omega)
  rw [if_neg h1]
  have h2 : ¬ sDr x 6 < 2 := by omega
  have xN : (mx_si X o 12 (sSeed x)).1 9 1 = nI N := by rw [hL1.2.1, e1]
  have hle : (nI N ≤ nI 0) = (N = 0) := by rw [pb_le (by omega) (by omega)]; simp
  by_cases h22 : sDr x 6 = 2
  · rw [if_pos h22, xN]
    simp only [hle]
    by_cases hN0 : N = 0
    · have e : sDrawP P N q (x, S) = (sSeed x, S) := by
        simp only [sDrawP]
        rw [if_neg h2, if_pos h22, if_pos hN0]
      rw [if_pos hN0, e]
      exact ⟨_, rfl, f1, si_eq, hR1⟩
    · have e : sDrawP P N q (x, S) = (sSeed (sSeed (sSeed x)), if sWhyHand S q (sDr (sSeed x) N) (sDr (sSeed (sSeed x)) P) = 0 then sHand S (sDr (sSeed x) N) (sDr (sSeed (sSeed x)) P) else S) := by
        simp only [sDrawP]
        rw [if_neg h2, if_pos h22, if_neg hN0]
      have hr := sDr_lt (x := sSeed x) (d := N) (by omega)
      have ht := sDr_lt (x := sSeed (sSeed x)) (d := P) (by omega)
      rw [if_neg hN0, e, x_draw (by omega) (by omega), si_eq]
      simp only [pb_bs]
      rw [si_nk (by omega), si_nk (by omega), hX.1, e0, x_draw (by omega) (by omega), si_eq]
      simp only [pb_bs]
      obtain ⟨Y, a1, a2, a3, a4, a5⟩ := x_passOn (by rw [si_nk (by omega), si_nk (by omega), si_nk (by omega), hX.1, e0]) (rSt_seed (v := sSeed (sSeed (sSeed x))) (rSt_seed (v := sSeed (sSeed x)) hR1)) hS hq hr ht hP hN
      rw [a1]
      simp only [pb_bs]
      refine ⟨Y, rfl, ((f1.si (by omega)).si (by omega)).tr a2, a3.trans si_eq, ?_⟩
      by_cases h : sWhyHand S q (sDr (sSeed x) N) (sDr (sSeed (sSeed x)) P) = 0
      · rw [if_pos h]
        exact a5 h
      · rw [if_neg h, a4 h]
        exact rSt_seed (rSt_seed hR1)
  rw [if_neg h22]
  by_cases h3 : sDr x 6 = 3
  · rw [if_pos h3, xN]
    simp only [hle]
    by_cases hN0 : N = 0
    · have e : sDrawP P N q (x, S) = (sSeed x, S) := by
        simp only [sDrawP]
        rw [if_neg h2, if_neg h22, if_pos h3, if_pos hN0]
      rw [if_pos hN0, e]
      exact ⟨_, rfl, f1, si_eq, hR1⟩
    · have e : sDrawP P N q (x, S) = (sSeed (sSeed x), if sWhyWear S N q (sDr (sSeed x) N) = 0 then upd S (85 + sDr (sSeed x) N) 1 else S) := by
        simp only [sDrawP]
        rw [if_neg h2, if_neg h22, if_pos h3, if_neg hN0]
      have hr := sDr_lt (x := sSeed x) (d := N) (by omega)
      rw [if_neg hN0, e, x_draw (by omega) (by omega), si_eq]
      simp only [pb_bs]
      obtain ⟨Y, a1, a2, a3, a4, a5⟩ := x_putOn hL ((f1.si (by omega)).ld ho hX) (rSt_seed (v := sSeed (sSeed x)) hR1) hq hr
      rw [a1]
      simp only [pb_bs]
      refine ⟨Y, rfl, (f1.si (by omega)).tr a2, a3.trans si_eq, ?_⟩
      by_cases h : sWhyWear S N q (sDr (sSeed x) N) = 0
      · rw [if_pos h]
        exact a5 h
      · rw [if_neg h, a4 h]
        exact rSt_seed hR1
  rw [if_neg h3]
  by_cases h4 : sDr x 6 = 4
  · have e : sDrawP P N q (x, S) = (sSeed x, if sWorn S N (nI q) = -1 then S else sDoff S N q) := by
      simp only [sDrawP]
      rw [if_neg h2, if_neg h22, if_neg h3, if_pos h4]
    obtain ⟨Y, a1, a2, a3, a4, a5⟩ := x_takeOff (q := q) xN hR1 hP hN
    rw [if_pos h4, e, a1]
    simp only [pb_bs]
    refine ⟨Y, rfl, f1.tr a2, a3.trans si_eq, ?_⟩
    by_cases h : sWorn S N (nI q) = -1
    · rw [if_pos h, a4 h]
      exact hR1
    · rw [if_neg h]
      exact a5 h
  · have e : sDrawP P N q (x, S) = (sSeed x, S) := by
      simp only [sDrawP]
      rw [if_neg h2, if_neg h22, if_neg h3, if_neg h4]
    rw [if_neg h4, e]
    exact ⟨_, rfl, f1, si_eq, hR1⟩
/-! days of draws -/
noncomputable def sDrawDay (P N : Nat) (z : Int32 × (Nat → Int32)) : Int32 × (Nat → Int32) := ((pfor (sDrawP P N) 0 P z).1, sDay (pfor (sDrawP P N) 0 P z).2 P N)
noncomputable def sDraws (P N : Nat) : Nat → Int32 × (Nat → Int32) → Nat × (Int32 × (Nat → Int32))
  | 0, z => (0, z)
  | n + 1, z => if (400 : Int32) ≤ z.2 54 then (0, z) else ((sDraws P N n (sDrawDay P N z)).1 + 1, (sDraws P N n (sDrawDay P N z)).2)
theorem sDrawP_L' {P N q : Nat} {z : Int32 × (Nat → Int32)} {S0 : Nat → Int32} (h : sameL S0 z.2) : sameL S0 (sDrawP P N q z).2 := by
  obtain ⟨x, S⟩ := z
  exact sDrawP_L h
theorem sDrawP_W' {P N q : Nat} {z : Int32 × (Nat → Int32)} (hP : P ≤ 7) (hN : N ≤ 7) (hq : q < P) (h : wSt z.2 P N) : wSt (sDrawP P N q z).2 P N := by
  obtain ⟨x, S⟩ := z
  exact sDrawP_W hP hN hq h
theorem m_drawPerson' {M : MM} {P N q : Nat} {z : Int32 × (Nat → Int32)} (hL : wLd z.2 P N) (hW : wSt z.2 P N) (hq : q < P) : fX13_drawPerson (nI q) (mS M z.1 z.2) = some (mS M (sDrawP P N q z).1 (sDrawP P N q z).2) := by
  obtain ⟨x, S⟩ := z
  exact m_drawPerson hL hW hq
theorem x_drawAct' {o q P N : Nat} {X : MM} {z : Int32 × (Nat → Int32)} (ho : 29 ≤ o) (hL : wLd z.2 P N) (hS : wSt z.2 P N) (hX : rLd X z.2 P N) (hR : rSt o X z.2 P N) (hx : X.1 o 12 = z.1) (hq : q < P) : ∃ X', fX9_drawAct o (nI q) X = some X' ∧ xFr o X X' ∧ X'.1 o 12 = (sDrawP P N q z).1 ∧ rSt o X' (sDrawP P N q z).2 P N := by
  obtain ⟨x, S⟩ := z
  exact x_drawAct ho hL hS hX hR hx hq
theorem sDrawDay_L {P N : Nat} {z : Int32 × (Nat → Int32)} {S0 : Nat → Int32} (h : sameL S0 z.2) : sameL S0 (pfor (sDrawP P N) 0 P z).2 ∧ sameL S0 (sDrawDay P N z).2 := by
  have h1 : sameL S0 (pfor (sDrawP P N) 0 P z).2 := pfor_inv (fun z => sameL S0 z.2) P 0 z (fun j z _ _ h => sDrawP_L' h) h
  exact ⟨h1, h1.tr sDay_L⟩
theorem sDrawP_54 {P N q : Nat} {z : Int32 × (Nat → Int32)} (hP : q < 7) (hN : N ≤ 7) (hP7 : P ≤ 7) : (sDrawP P N q z).2 54 = z.2 54 := by
  obtain ⟨x, S⟩ := z
  unfold sDrawP
  simp only
  split
  · simp only
    split
    · simp (disch := omega) only [sGo, pk_un]
    · rfl
  · split
    · split
      · rfl
      · simp only
        split
        · simp (disch := omega) only [sHand, pk_un]
        · rfl
    · split
      · split
        · rfl
        · simp only
          split
          · simp (disch := omega) only [pk_un]
          · rfl
      · split
        · simp only
          split
          · rfl
          · simp (disch := omega) only [sDoff, pk_un]
        · rfl
theorem sDrawP_all {P N : Nat} {z : Int32 × (Nat → Int32)} (hP : P ≤ 7) (hN : N ≤ 7) (hW : wSt z.2 P N) : wSt (pfor (sDrawP P N) 0 P z).2 P N ∧ (pfor (sDrawP P N) 0 P z).2 54 = z.2 54 := by
  refine pfor_inv (fun y => wSt y.2 P N ∧ y.2 54 = z.2 54) P 0 z (fun j y _ hj ⟨a, b⟩ => ⟨sDrawP_W' hP hN (by omega) a, (sDrawP_54 (by omega) hN hP).trans b⟩) ⟨hW, rfl⟩
theorem sDrawDay_W {P N d : Nat} {z : Int32 × (Nat → Int32)} (hL : wLd z.2 P N) (hW : wSt z.2 P N) (hd : z.2 54 = nI d) (h4 : d < 400) : wSt (sDrawDay P N z).2 P N := by
  obtain ⟨a, b⟩ := sDrawP_all hL.2.1 hL.2.2.2.1 hW
  exact wSt_day (wLd_same (sDrawDay_L sameL.rf).1 hL) a (b.trans hd) h4
theorem sDraws_L {P N : Nat} : ∀ (n : Nat) (z : Int32 × (Nat → Int32)) (S0 : Nat → Int32), sameL S0 z.2 → sameL S0 (sDraws P N n z).2.2 := by
  intro n
  induction n with
  | zero => intro z S0 h; exact h
  | succ n ih =>
    intro z S0 h
    rw [sDraws]
    split
    · exact h
    · exact ih _ _ (sDrawDay_L h).2
theorem sDraws_W {P N : Nat} : ∀ (n : Nat) (z : Int32 × (Nat → Int32)), wLd z.2 P N → wSt z.2 P N → wSt (sDraws P N n z).2.2 P N := by
  intro n
  induction n with
  | zero => intro z _ h; exact h
  | succ n ih =>
    intro z hL hW
    rw [sDraws]
    split
    · exact hW
    · rename_i h4
      obtain ⟨⟨d, hd, ed⟩, -⟩ := id hW
      rw [ed, c400, pb_le (by omega) (by omega)] at h4
      exact ih _ (wLd_same (sDrawDay_L sameL.rf).2 hL) (sDrawDay_W hL hW ed (by omega))
theorem m_draws28 {M : MM} {P N : Nat} {a b : Int32} {k7 : Int32 → MM → Option (Int32 × MM)} {z : Int32 × (Nat → Int32)} {i3 : Nat} (hL : wLd z.2 P N) (hW : wSt z.2 P N) : fX13_draws_28 a b k7 mx_fu (nI i3) (nI 0) (mS M z.1 z.2) = k7 (nI (i3 + 1)) (mS M (sDrawDay P N z).1 (sDrawDay P N z).2) := by
  obtain ⟨e0, hP, e1, hN, -⟩ := id hL
  have h := (loop_all (fun n k y => fX13_draws_28 a b k7 n (nI i3) (nI k) (mS M y.1 y.2)) P (sDrawP P N) (fun y => k7 (nI (i3 + 1)) (mS M y.1 (sDay y.2 P N))) (fun _ y => wSt y.2 P N ∧ sameL z.2 y.2) z (by omega) ⟨hW, sameL.rf⟩ (fun n y ⟨_, hs⟩ => by
      show fX13_draws_28 a b k7 (n + 1) (nI i3) (nI P) (mS M y.1 y.2) = _
      rw [fX13_draws_28, mS_2, hs 0 (by omega), e0, if_pos (nI_le (Nat.le_refl P) (by omega)), m_day (P := P) (N := N) (by rw [mS_2]; exact wLd_same hs hL), mS_2, mS_S]
      simp only [pb_bs, nI_1]) (fun n k y hk ⟨hw, hs⟩ => ⟨by
      show fX13_draws_28 a b k7 (n + 1) (nI i3) (nI k) (mS M y.1 y.2) = fX13_draws_28 a b k7 n (nI i3) (nI (k + 1)) (mS M (sDrawP P N k y).1 (sDrawP P N k y).2)
      rw [fX13_draws_28, mS_2, hs 0 (by omega), e0, if_neg (nI_ge hk (by omega)), m_drawPerson' (P := P) (N := N) (wLd_same hs hL) hw hk]
      simp only [pb_bs, nI_1], sDrawP_W' hP hN hk hw, sDrawP_L' hs⟩)).1
  exact h
theorem m_draws {M : MM} {P N K : Nat} {x : Int32} (hK : K ≤ 60) (hL : wLd (M.1 2) P N) (hW : wSt (M.1 2) P N) : fX13_draws (nI K) x M = some (nI (sDraws P N K (x, M.1 2)).1, mS M (sDraws P N K (x, M.1 2)).2.1 (sDraws P N K (x, M.1 2)).2.2) := by
  have key : ∀ (c k n : Nat) (z : Int32 × (Nat → Int32)), k + c = K → c < n → wLd z.2 P N → wSt z.2 P N → fX13_draws_7 (nI K) x n (nI k) (mS M z.1 z.2) = some (nI (k + (sDraws P N c z).1), mS M (sDraws P N c z).2.1 (sDraws P N c z).2.2) := by
    intro c
    induction c with
    | zero =>
      intro k n z hk hn hL hW
      obtain ⟨n, rfl⟩ : ∃ y, n = y + 1 := ⟨n - 1, by omega⟩
      rw [fX13_draws_7, if_pos (nI_le (by omega) (by omega))]
      rfl
    | succ c ih =>
      intro k n z hk hn hL hW
      obtain ⟨n, rfl⟩ : ∃ y, n = y + 1 := ⟨n - 1, by omega⟩
      rw [fX13_draws_7, if_neg (nI_ge (by omega) (by omega)), mS_2, sDraws]
      by_cases h4 : (400 : Int32) ≤ z.2 54
      · rw [if_pos h4, if_pos h4]
        rfl
      · obtain ⟨⟨d, hd, ed⟩, -⟩ := id hW
        have hd4 : d < 400 := by
          rw [ed, c400, pb_le (by omega) (by omega)] at h4
          omega
        rw [if_neg h4, if_neg h4, c0, m_draws28 hL hW, ih (k + 1) n _ (by omega) (by omega) (wLd_same (sDrawDay_L sameL.rf).2 hL) (sDrawDay_W hL hW ed hd4), show k + 1 + (sDraws P N c (sDrawDay P N z)).1 = k + ((sDraws P N c (sDrawDay P N z)).1 + 1) by omega]
  have := key K 0 mx_fu (x, M.1 2) (by omega) (by unfold mx_fu; omega) hL hW
  rw [Nat.zero_add] at this
  rw [fX13_draws, mS_0]
  exact this
theorem x_draws25 {o P N : Nat} {X : MM} {a b : Int32} {k7 : Int32 → MM → Option (Int32 × MM)} {z : Int32 × (Nat → Int32)} {i3 : Nat} (ho : 29 ≤ o) (hL : wLd z.2 P N) (hW : wSt z.2 P N) (hX : rLd X z.2 P N) (hR : rSt o X z.2 P N) (hx : X.1 o 12 = z.1) : ∃ X', fX9_drawDays_25 o a b k7 mx_fu (nI i3) (nI 0) X = k7 (nI (i3 + 1)) X' ∧ xFr o X X' ∧ X'.1 o 12 = (sDrawDay P N z).1 ∧ rSt o X' (sDrawDay P N z).2 P N := by
  obtain ⟨e0, hP, e1, hN, -⟩ := id hL
  have x0 : X.1 9 0 = nI P := by rw [hX.1, e0]
  obtain ⟨X1, a1, a2, a3, a4⟩ := loop_rel (fun n k Y => fX9_drawDays_25 o a b k7 n (nI i3) (nI k) Y) P (fun k Y => xFr o X Y ∧ Y.1 o 12 = (pfor (sDrawP P N) 0 k z).1 ∧ rSt o Y (pfor (sDrawP P N) 0 k z).2 P N) (fun Y => (fX9_passDay o Y).bind fun q50 => k7 (nI i3 + (1 : Int32)) q50) (fun n Y ⟨hf, _, _⟩ => by
      show fX9_drawDays_25 o a b k7 (n + 1) (nI i3) (nI P) Y = _
      rw [fX9_drawDays_25, hf.1 9 (by omega), x0, if_pos (nI_le (Nat.le_refl P) (by omega))]) (fun n k Y hk ⟨hf, hx, hY⟩ => by
      show ∃ Y', fX9_drawDays_25 o a b k7 (n + 1) (nI i3) (nI k) Y = fX9_drawDays_25 o a b k7 n (nI i3) (nI (k + 1)) Y' ∧ _
      have hs : sameL z.2 (pfor (sDrawP P N) 0 k z).2 := pfor_inv (fun y => sameL z.2 y.2) k 0 z (fun j y _ _ h => sDrawP_L' h) sameL.rf
      have hw : wSt (pfor (sDrawP P N) 0 k z).2 P N := pfor_inv (fun y => wSt y.2 P N) k 0 z (fun j y _ hj h => sDrawP_W' hP hN (by omega) h) hW
      obtain ⟨Y', b1, b2, b3, b4⟩ := x_drawAct' (q := k) ho (wLd_same hs hL) hw (rLd_same hP hN hs (hf.ld ho hX)) hY hx hk
      rw [fX9_drawDays_25, hf.1 9 (by omega), x0, if_neg (nI_ge hk (by omega)), b1]
      simp only [pb_bs, nI_1]
      refine ⟨Y', rfl, hf.tr b2, ?_, ?_⟩
      · rw [pfor_succ, Nat.zero_add]
        exact b3
      · rw [pfor_succ, Nat.zero_add]
        exact b4) P 0 mx_fu X (by omega) (by unfold mx_fu; omega) ⟨xFr.rf, hx, hR⟩
  have hs : sameL z.2 (pfor (sDrawP P N) 0 P z).2 := (sDrawDay_L sameL.rf).1
  obtain ⟨X2, b1, b2, b3, b4⟩ := x_passDay ho (wLd_same hs hL) (rLd_same hP hN hs (a2.ld ho hX)) a4
  refine ⟨X2, ?_, a2.tr b2, b3.trans a3, b4⟩
  refine a1.trans ?_
  show (fX9_passDay o X1).bind _ = _
  rw [b1]
  simp only [pb_bs, nI_1]
theorem x_drawDays {o P N K : Nat} {X : MM} {x : Int32} {S : Nat → Int32} (hK : K ≤ 60) (ho : 29 ≤ o) (hL : wLd S P N) (hW : wSt S P N) (hX : rLd X S P N) (hR : rSt o X S P N) : ∃ X', fX9_drawDays o (nI K) x X = some (nI (sDraws P N K (x, S)).1, X') ∧ xFr o X X' ∧ rSt o X' (sDraws P N K (x, S)).2.2 P N := by
  have hP := hL.2.1
  have hN := hL.2.2.2.1
  have key : ∀ (c k n : Nat) (Y : MM) (z : Int32 × (Nat → Int32)), k + c = K → c < n → sameL S z.2 → wSt z.2 P N → xFr o X Y → rSt o Y z.2 P N → Y.1 o 12 = z.1 → ∃ X', fX9_drawDays_7 o (nI K) x n (nI k) Y = some (nI (k + (sDraws P N c z).1), X') ∧ xFr o X X' ∧ rSt o X' (sDraws P N c z).2.2 P N := by
    intro c
    induction c with
    | zero =>
      intro k n Y z hk hn hS hW hf hY hx
      obtain ⟨n, rfl⟩ : ∃ y, n = y + 1 := ⟨n - 1, by omega⟩
      rw [fX9_drawDays_7, if_pos (nI_le (by omega) (by omega))]
      exact ⟨Y, rfl, hf, hY⟩
    | succ c ih =>
      intro k n Y z hk hn hS hW hf hY hx
      obtain ⟨n, rfl⟩ : ∃ y, n = y + 1 := ⟨n - 1, by omega⟩
      rw [fX9_drawDays_7, if_neg (nI_ge (by omega) (by omega)), hY.1, sDraws]
      by_cases h4 : (400 : Int32) ≤ z.2 54
      · rw [if_pos h4, if_pos h4]
        exact ⟨Y, rfl, hf, hY⟩
      · obtain ⟨⟨d, hd, ed⟩, -⟩ := id hW
        have hd4 : d < 400 := by
          rw [ed, c400, pb_le (by omega) (by omega)] at h4
          omega
        obtain ⟨Y1, a1, a2, a3, a4⟩ := x_draws25 (a := nI K) (b := x) (k7 := fX9_drawDays_7 o (nI K) x n) (i3 := k) ho (wLd_same hS hL) hW (rLd_same hP hN hS (hf.ld ho hX)) hY hx
        obtain ⟨Y2, b1, b2, b3⟩ := ih (k + 1) n Y1 _ (by omega) (by omega) (hS.tr (sDrawDay_L sameL.rf).2) (sDrawDay_W (wLd_same hS hL) hW ed hd4) (hf.tr a2) a4 a3
        rw [if_neg h4, if_neg h4, c0, a1, b1]
        exact ⟨Y2, by rw [show k + 1 + (sDraws P N c (sDrawDay P N z)).1 = k + ((sDraws P N c (sDrawDay P N z)).1 + 1) by omega], b2, b3⟩
  obtain ⟨X', h1, h2, h3⟩ := key K 0 mx_fu (mx_si X o 12 x) (x, S) (by omega) (by unfold mx_fu; omega) sameL.rf hW (xFr.rf.si (by omega)) (rSt_seed hR) si_eq
  rw [Nat.zero_add] at h1
  exact ⟨X', h1, h2, h3⟩
