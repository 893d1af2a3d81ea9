/-! the reference: its next token -/
def yT (Y : MM) (t : Nat → Nat) (L mo : Nat) : Prop := Y.1 0 3 = nI L ∧ Y.1 0 5 = nI mo ∧ L ≤ 940 ∧ mo ≤ 1000 ∧ ∀ i, i < L → Y.1 1 i &&& (255 : Int32) = nI (t i) ∧ t i < 256
def nN (Y Y' : MM) : Prop := (∀ a b, ¬ (a = 0 ∧ (b = 4 ∨ (11 ≤ b ∧ b ≤ 14))) → Y'.1 a b = Y.1 a b) ∧ ∀ a b, ¬ (a = 0 ∧ b = 17) → Y'.2.1 a b = Y.2.1 a b
theorem nN.rf {Y : MM} : nN Y Y := ⟨fun _ _ _ => rfl, fun _ _ _ => rfl⟩
theorem nN.tr {Y Y1 Y2 : MM} (a : nN Y Y1) (b : nN Y1 Y2) : nN Y Y2 := ⟨fun k j h => (b.1 k j h).trans (a.1 k j h), fun k j h => (b.2 k j h).trans (a.2 k j h)⟩
theorem nN.si {Y Y' : MM} {j : Nat} {v : Int32} (h : nN Y Y') (hj : j = 4 ∨ (11 ≤ j ∧ j ≤ 14)) : nN Y (mx_si Y' 0 j v) := ⟨fun a b hn => by
  rw [← h.1 a b hn]
  show (if _ then _ else _) = _
  rw [if_neg (by omega)], h.2⟩
theorem nN.sl {Y Y' : MM} {v : Int64} (h : nN Y Y') : nN Y (mx_sl Y' 0 17 v) := ⟨h.1, fun a b hn => by
  rw [← h.2 a b hn]
  show (if _ then _ else _) = _
  rw [if_neg (by omega)]⟩
theorem yT.fr {Y Y' : MM} {t : Nat → Nat} {L mo : Nat} (h : yT Y t L mo) (hn : nN Y Y') : yT Y' t L mo := ⟨by rw [hn.1 0 3 (by omega)]; exact h.1, by rw [hn.1 0 5 (by omega)]; exact h.2.1, h.2.2.1, h.2.2.2.1, fun i hi => by rw [hn.1 1 i (by omega)]; exact h.2.2.2.2 i hi⟩
theorem m_peek {Y : MM} {t : Nat → Nat} {L mo i : Nat} (h : yT Y t L mo) (h4 : Y.1 0 4 = nI i) (hi : i < L) : fX13_peek Y = some (nI (t i)) := by
  obtain ⟨h1, h2, h3, h5, h6⟩ := h
  rw [fX13_peek, h1, h4, if_neg (nI_ge hi (by omega)), pb_gd (by omega) (by omega), nI_clamp (by omega), (h6 i hi).1]
theorem m_peek0 {Y : MM} {t : Nat → Nat} {L mo i : Nat} (h : yT Y t L mo) (h4 : Y.1 0 4 = nI i) (hi : i = L) : fX13_peek Y = some (-1) := by
  obtain ⟨h1, h2, h3, h5, h6⟩ := h
  rw [fX13_peek, h1, h4, if_pos (nI_le (by omega) (by omega))]
theorem m_small0 {M : MM} : fX13_isSmall (-1) M = some false := rfl
theorem m_digit0 {M : MM} : fX13_isDigit (-1) M = some false := rfl
def nTail (M : MM) : Option MM := if ((mx_si (mx_si M 0 12 (M.1 0 4)) 0 13 (0 : Int32)).1 0 3) ≤ ((mx_si (mx_si M 0 12 (M.1 0 4)) 0 13 (0 : Int32)).1 0 5) then fX13_next_80 (mx_si (mx_si M 0 12 (M.1 0 4)) 0 13 (0 : Int32)) else if ((mx_si (mx_si M 0 12 (M.1 0 4)) 0 13 (0 : Int32)).1 0 4) < ((mx_si (mx_si M 0 12 (M.1 0 4)) 0 13 (0 : Int32)).1 0 5) then fX13_next_80 (mx_si (mx_si M 0 12 (M.1 0 4)) 0 13 (0 : Int32)) else some (mx_si (mx_si (mx_si (mx_si M 0 12 (M.1 0 4)) 0 13 (0 : Int32)) 0 12 ((mx_si (mx_si M 0 12 (M.1 0 4)) 0 13 (0 : Int32)).1 0 5)) 0 11 (4 : Int32))
theorem nx0 (n : Nat) (M : MM) : fX13_next_0 (n + 1) M = (fX13_peek M).bind fun q1 => if q1 = (32 : Int32) then fX13_next_18 (fX13_next_0 n) M else (fX13_peek M).bind fun q10 => if q10 = (10 : Int32) then fX13_next_18 (fX13_next_0 n) M else nTail M := rfl
theorem m_skip {t : Nat → Nat} {L mo : Nat} : ∀ c i f Y, i + c = L → c < f → yT Y t L mo → Y.1 0 4 = nI i → ∃ Y', fX13_next_0 f Y = nTail Y' ∧ nN Y Y' ∧ Y'.1 0 4 = nI (pfst (fun j => !tB (t j)) i c) := by
  intro c
  induction c with
  | zero =>
    intro i f Y hi hf h h4
    obtain ⟨f, rfl⟩ : ∃ z, f = z + 1 := ⟨f - 1, by omega⟩
    refine ⟨Y, ?_, nN.rf, by rw [pfst]; exact h4⟩
    rw [nx0, m_peek0 h h4 (by omega)]
    simp only [pb_bs]
    rw [if_neg (by decide), if_neg (by decide)]
  | succ c ih =>
    intro i f Y hi hf h h4
    obtain ⟨f, rfl⟩ : ∃ z, f = z + 1 := ⟨f - 1, by omega⟩
    have e1 : i < L := by omega
    have hb := (h.2.2.2.2 i e1).2
    have hL := h.2.2.1
    have c1 : (nI (t i) = (32 : Int32)) = (t i = 32) := propext (nI_eq (b := 32) (by omega) (by omega))
    have c2 : (nI (t i) = (10 : Int32)) = (t i = 10) := propext (nI_eq (b := 10) (by omega) (by omega))
    rw [nx0, m_peek h h4 e1]
    simp only [pb_bs, c1, c2]
    rw [pfst]
    have goOn : tB (t i) = true → ∃ Y', fX13_next_18 (fX13_next_0 f) Y = nTail Y' ∧ nN Y Y' ∧ Y'.1 0 4 = nI (if (!tB (t i)) = true then i else pfst (fun j => !tB (t j)) (i + 1) c) := by
      intro hB
      rw [fX13_next_18, h4, nI_1, if_neg (by rw [hB]; decide)]
      obtain ⟨Y', a1, a2, a3⟩ := ih (i + 1) f (mx_si Y 0 4 (nI (i + 1))) (by omega) (by omega) (h.fr (nN.rf.si (by omega))) si_eq
      exact ⟨Y', a1, (nN.rf.si (by omega)).tr a2, a3⟩
    by_cases b1 : t i = 32
    · rw [if_pos b1]
      exact goOn (by unfold tB; simp [b1])
    · rw [if_neg b1]
      by_cases b2 : t i = 10
      · rw [if_pos b2]
        exact goOn (by unfold tB; simp [b2])
      · rw [if_neg b2]
        have hB : tB (t i) = false := by unfold tB; simp [b1, b2]
        exact ⟨Y, rfl, nN.rf, by rw [if_pos (by rw [hB]; decide)]; exact h4⟩
/-! a run of letters and digits -/
def gW (t : Nat → Nat) : Nat → Nat → Nat → Int64 → Int64
  | _, 0, _, x => x
  | i, c + 1, sp, x => gW t (i + 1) c (sp + 1) (if sp < 7 then (x <<< ((8 : Int32).toInt64 &&& 63)) ||| (nI (t i)).toInt64 else x)
def gV (t : Nat → Nat) : Nat → Nat → Nat → Int32 → Int32
  | _, 0, _, x => x
  | i, c + 1, sp, x => gV t (i + 1) c (sp + 1) (if sp < 3 then ((10 : Int32) * x + nI (t i)) - (48 : Int32) else x)
def gA (t : Nat → Nat) (b : Bool) : Nat → Nat → Bool → Bool
  | _, 0, a => a
  | i, c + 1, a => gA t b (i + 1) c (a && (tS (t i) == b))
theorem m_n275 {b2 : Bool} {k : Bool → MM → Option MM} {b3 : Bool} {Y : MM} {i sp : Nat} (h4 : Y.1 0 4 = nI i) (h13 : Y.1 0 13 = nI sp) : fX13_next_275 b2 k b3 Y = k b3 (mx_si (mx_si Y 0 13 (nI (sp + 1))) 0 4 (nI (i + 1))) := by
  rw [fX13_next_275, h13, nI_1, si_nj (by omega), h4, nI_1]
theorem m_n221 {t : Nat → Nat} {L mo i sp : Nat} {b2 : Bool} {k : Bool → MM → Option MM} {b3 : Bool} {Y : MM} (h : yT Y t L mo) (hi : i < L) (hsp : sp ≤ 1000) (h4 : Y.1 0 4 = nI i) (h13 : Y.1 0 13 = nI sp) : ∃ Y', fX13_next_221 b2 k b3 Y = k b3 Y' ∧ nN Y Y' ∧ Y'.1 0 4 = nI (i + 1) ∧ Y'.1 0 13 = nI (sp + 1) ∧ Y'.1 0 12 = Y.1 0 12 ∧ Y'.2.1 0 17 = (if sp < 7 then (Y.2.1 0 17 <<< ((8 : Int32).toInt64 &&& 63)) ||| (nI (t i)).toInt64 else Y.2.1 0 17) ∧ Y'.1 0 14 = (if sp < 3 then ((10 : Int32) * Y.1 0 14 + nI (t i)) - (48 : Int32) else Y.1 0 14) := by
  have c7 : ((7 : Int32) ≤ nI sp) = (7 ≤ sp) := pb_le (a := 7) (by omega) (by omega)
  have c3' : ((3 : Int32) ≤ nI sp) = (3 ≤ sp) := pb_le (a := 3) (by omega) (by omega)
  rw [fX13_next_221, h13]
  simp only [c7]
  by_cases s7 : sp < 7
  · rw [if_neg (by omega), m_peek h h4 hi, if_pos s7]
    simp only [pb_bs]
    have h' : yT (mx_sl Y 0 17 ((Y.2.1 0 17 <<< ((8 : Int32).toInt64 &&& 63)) ||| (nI (t i)).toInt64)) t L mo := h.fr nN.rf.sl
    rw [fX13_next_248, sl_i, h13]
    simp only [c3']
    by_cases s3 : sp < 3
    · rw [if_neg (by omega), m_peek h' h4 hi, if_pos s3]
      simp only [pb_bs]
      rw [m_n275 (i := i) (sp := sp) (by rw [si_nj (by omega)]; exact h4) (by rw [si_nj (by omega)]; exact h13)]
      refine ⟨_, rfl, ((nN.rf.sl.si (by omega)).si (by omega)).si (by omega), si_eq, ?_, ?_, ?_, ?_⟩
      · rw [si_nj (by omega), si_eq]
      · rw [si_nj (by omega), si_nj (by omega), si_nj (by omega), sl_i]
      · exact sl_eq
      · rw [si_nj (by omega), si_nj (by omega), si_eq, sl_i]
    · rw [if_pos (by omega), if_neg s3, m_n275 (i := i) (sp := sp) (by rw [sl_i]; exact h4) (by rw [sl_i]; exact h13)]
      refine ⟨_, rfl, (nN.rf.sl.si (by omega)).si (by omega), si_eq, ?_, ?_, ?_, ?_⟩
      · rw [si_nj (by omega), si_eq]
      · rw [si_nj (by omega), si_nj (by omega), sl_i]
      · exact sl_eq
      · rw [si_nj (by omega), si_nj (by omega), sl_i]
  · rw [if_pos (by omega), if_neg s7, fX13_next_248, h13]
    simp only [c3']
    rw [if_pos (by omega), if_neg (by omega : ¬ sp < 3), m_n275 (i := i) (sp := sp) h4 h13]
    refine ⟨_, rfl, (nN.rf.si (by omega)).si (by omega), si_eq, ?_, ?_, rfl, ?_⟩
    · rw [si_nj (by omega), si_eq]
    · rw [si_nj (by omega), si_nj (by omega)]
    · rw [si_nj (by omega), si_nj (by omega)]
theorem m_n201 {t : Nat → Nat} {L mo i : Nat} {b2 : Bool} {k : Bool → MM → Option MM} {b3 : Bool} {Y : MM} (h : yT Y t L mo) (hi : i < L) (h4 : Y.1 0 4 = nI i) : fX13_next_201 b2 k b3 Y = fX13_next_221 b2 k (b3 && (tS (t i) == b2)) Y := by
  have hb := (h.2.2.2.2 i hi).2
  rw [fX13_next_201]
  cases b3
  · rw [if_pos b_f, fX13_next_220, Bool.false_and]
  · rw [if_neg b_t, m_peek h h4 hi]
    simp only [pb_bs]
    rw [m_small hb]
    simp only [pb_bs, fX13_next_220, Bool.true_and]
    cases tS (t i) <;> cases b2 <;> rfl
theorem m_wrun {t : Nat → Nat} {L mo e : Nat} {b2 : Bool} (he : e ≤ L) (hs : e < L → tA (t e) = false) : ∀ c i sp f b3 Y, i + c = e → sp + c ≤ 1000 → (∀ j, i ≤ j → j < e → tA (t j) = true) → c < f → yT Y t L mo → Y.1 0 4 = nI i → Y.1 0 13 = nI sp → ∃ Y', fX13_next_181 b2 f b3 Y = some (mx_si Y' 0 11 (if gA t b2 i c b3 then if b2 then if sp + c ≤ 7 then 1 else 4 else if sp + c ≤ 3 then 2 else 4 else 4)) ∧ nN Y Y' ∧ Y'.1 0 4 = nI e ∧ Y'.1 0 12 = Y.1 0 12 ∧ Y'.2.1 0 17 = gW t i c sp (Y.2.1 0 17) ∧ Y'.1 0 14 = gV t i c sp (Y.1 0 14) := by
  intro c
  induction c with
  | zero =>
    intro i sp f b3 Y hi hsp hr hf h h4 h13
    obtain ⟨f, rfl⟩ : ∃ z, f = z + 1 := ⟨f - 1, by omega⟩
    have : i = e := by omega
    subst this
    refine ⟨Y, ?_, nN.rf, h4, rfl, rfl, rfl⟩
    have c7 : (nI sp ≤ (7 : Int32)) = (sp ≤ 7) := pb_le (b := 7) (by omega) (by omega)
    have c3' : (nI sp ≤ (3 : Int32)) = (sp ≤ 3) := pb_le (b := 3) (by omega) (by omega)
    have fin : (if (mx_b b3) = 0 then fX13_next_320 (fun is1' M' => fX13_next_333 is1' M') Y else if (mx_b b2) = 0 then fX13_next_317 b2 (fun M' => fX13_next_320 (fun is1' M' => fX13_next_333 is1' M') M') (fun is1' M' => fX13_next_333 is1' M') (Y.1 0 13) (3 : Int32) Y else fX13_next_317 b2 (fun M' => fX13_next_320 (fun is1' M' => fX13_next_333 is1' M') M') (fun is1' M' => fX13_next_333 is1' M') (Y.1 0 13) (7 : Int32) Y) = some (mx_si Y 0 11 (if b3 then if b2 then if sp ≤ 7 then 1 else 4 else if sp ≤ 3 then 2 else 4 else 4)) := by
      cases b3
      · rw [if_pos b_f, fX13_next_320, fX13_next_333]; rfl
      · rw [if_neg b_t]
        cases b2
        · rw [if_pos b_f, fX13_next_317, h13]
          simp only [c3']
          by_cases q : sp ≤ 3
          · rw [if_pos q, if_pos b_f, fX13_next_333]; simp [q]
          · rw [if_neg q, fX13_next_320, fX13_next_333]; simp [q]
        · rw [if_neg b_t, fX13_next_317, h13]
          simp only [c7]
          by_cases q : sp ≤ 7
          · rw [if_pos q, if_neg b_t, fX13_next_333]; simp [q]
          · rw [if_neg q, fX13_next_320, fX13_next_333]; simp [q]
    rw [fX13_next_181, gA, Nat.add_zero]
    by_cases e1 : i < L
    · have hb := (h.2.2.2.2 i e1).2
      have ha := hs e1
      unfold tA at ha
      rw [Bool.or_eq_false_iff] at ha
      rw [m_peek h h4 e1]
      simp only [pb_bs]
      rw [m_small hb, m_digit hb, ha.1, ha.2]
      simp only [pb_bs]
      rw [if_pos b_f, if_pos b_f]
      exact fin
    · rw [m_peek0 h h4 (by omega)]
      simp only [pb_bs, m_small0, m_digit0]
      rw [if_pos b_f, if_pos b_f]
      exact fin
  | succ c ih =>
    intro i sp f b3 Y hi hsp hr hf h h4 h13
    obtain ⟨f, rfl⟩ : ∃ z, f = z + 1 := ⟨f - 1, by omega⟩
    have e1 : i < L := by omega
    have hb := (h.2.2.2.2 i e1).2
    have ha := hr i (Nat.le_refl _) (by omega)
    obtain ⟨Y1, a1, a2, a3, a4, a5, a6, a7⟩ := m_n221 (b2 := b2) (k := fX13_next_181 b2 f) (b3 := b3 && (tS (t i) == b2)) h e1 (by omega) h4 h13
    obtain ⟨Y2, b1, b2', b3', b4, b5, b6⟩ := ih (i + 1) (sp + 1) f (b3 && (tS (t i) == b2)) Y1 (by omega) (by omega) (fun j h1 h2 => hr j (by omega) h2) (by omega) (h.fr a2) a3 a4
    have step : fX13_next_181 b2 (f + 1) b3 Y = fX13_next_201 b2 (fX13_next_181 b2 f) b3 Y := by
      rw [fX13_next_181, m_peek h h4 e1]
      simp only [pb_bs]
      rw [m_small hb, m_digit hb]
      simp only [pb_bs]
      cases hS : tS (t i)
      · have hD : tD (t i) = true := by unfold tA at ha; rw [hS] at ha; simpa using ha
        rw [if_pos b_f, hD, if_neg b_t]
      · rw [if_neg b_t]
    refine ⟨Y2, ?_, a2.tr b2', b3', b4.trans a5, ?_, ?_⟩
    · rw [step, m_n201 h e1 h4, a1, b1, gA, show sp + 1 + c = sp + (c + 1) by omega]
    · rw [b5, gW, a6]
    · rw [b6, gV, a7]
theorem gA_t (t : Nat → Nat) : ∀ c i b, gA t true i c b = (b && decide (cD t i c = 0)) := by
  intro c
  induction c with
  | zero => intro i b; rw [gA, cD]; simp
  | succ c ih =>
    intro i b
    rw [gA, ih, cD]
    cases tS (t i) <;> cases b <;> simp
theorem gA_f (t : Nat → Nat) : ∀ c i b, gA t false i c b = (b && decide (cS t i c = 0)) := by
  intro c
  induction c with
  | zero => intro i b; rw [gA, cS]; simp
  | succ c ih =>
    intro i b
    rw [gA, ih, cS]
    cases tS (t i) <;> cases b <;> simp
def sgC (c : Nat) : Bool := decide (c = 59) || decide (c = 40) || decide (c = 41) || (decide (60 ≤ c) && decide (c ≤ 62))
def dR (t : Nat → Nat) (L mo j : Nat) (Y : MM) : Prop := Y.1 0 12 = nI (stJ L mo j) ∧ (kdJ t L mo j = 0 → Y.1 0 11 = 4) ∧ (kdJ t L mo j = 1 → Y.1 0 11 = 0) ∧ (kdJ t L mo j = 2 → Y.1 0 11 = 1 ∧ Y.2.1 0 17 = gW t j (rne t L j - j) 0 0) ∧ (kdJ t L mo j = 4 → Y.1 0 11 = 2 ∧ Y.1 0 14 = gV t j (rne t L j - j) 0 0) ∧ (kdJ t L mo j = 5 → Y.1 0 14 = nI (t j) ∧ Y.1 0 11 = if sgC (t j) then 3 else 4)
theorem m_n145 {Y : MM} {c i : Nat} {v : Int32} (h4 : Y.1 0 4 = nI i) : fX13_next_145 (nI c) v Y = some (mx_si (mx_si (mx_si Y 0 11 v) 0 14 (nI c)) 0 4 (nI (i + 1))) := by
  rw [fX13_next_145, si_nj (by omega), si_nj (by omega), h4, nI_1]
theorem m_next {Y : MM} {t : Nat → Nat} {L mo i : Nat} (h0 : yT Y t L mo) (hi : i ≤ L) (h04 : Y.1 0 4 = nI i) : ∃ Y', fX13_next Y = some Y' ∧ nN Y Y' ∧ Y'.1 0 4 = nI (enJ t L mo (skp t L i)) ∧ dR t L mo (skp t L i) Y' := by
  obtain ⟨Y1, s1, s2, s3⟩ := m_skip (t := t) (L := L) (mo := mo) (L - i) i mx_fu Y (by omega) (by unfold mx_fu; have := h0.2.2.1; omega) h0 h04
  have e0 : pfst (fun j => !tB (t j)) i (L - i) = skp t L i := rfl
  rw [e0] at s3
  have hj := (skp_sp (t := t) hi).2.1
  rw [fX13_next, s1]
  generalize skp t L i = j at hj s3 ⊢
  have h := h0.fr s2
  have hL := h.2.2.1
  have hm := h.2.2.2.1
  have c1 : (nI L ≤ nI mo) = (L ≤ mo) := pb_le (by omega) (by omega)
  have c2 : (nI j < nI mo) = (j < mo) := pb_lt (by omega) (by omega)
  have n1 : (3 : Nat) ≠ 13 := by omega
  have n2 : (3 : Nat) ≠ 12 := by omega
  have n3 : (5 : Nat) ≠ 13 := by omega
  have n4 : (5 : Nat) ≠ 12 := by omega
  have n5 : (4 : Nat) ≠ 13 := by omega
  have n6 : (4 : Nat) ≠ 12 := by omega
  rw [nTail]
  simp only [si_nj n1, si_nj n2, si_nj n3, si_nj n4, si_nj n5, si_nj n6, h.1, h.2.1, s3, c1, c2]
  by_cases hb : mo < L ∧ mo ≤ j
  · rw [if_neg (by omega), if_neg (by omega)]
    have hk : kdJ t L mo j = 0 := if_pos hb
    have hst : stJ L mo j = mo := if_pos hb
    have hen : enJ t L mo j = j := if_pos hb
    refine ⟨_, rfl, s2.tr ((((nN.rf.si (by omega)).si (by omega)).si (by omega)).si (by omega)), ?_, ?_, ?_, ?_, ?_, ?_, ?_⟩
    · rw [si_nj (by omega), si_nj (by omega), si_nj (by omega), si_nj (by omega), hen]; exact s3
    · rw [si_nj (by omega), si_eq, hst]
    · intro _; exact si_eq
    all_goals intro q; rw [hk] at q; exact absurd q (by decide)
  · have hst : stJ L mo j = j := if_neg hb
    have e80 : (if L ≤ mo then fX13_next_80 (mx_si (mx_si Y1 0 12 (nI j)) 0 13 (0 : Int32)) else if j < mo then fX13_next_80 (mx_si (mx_si Y1 0 12 (nI j)) 0 13 (0 : Int32)) else some (mx_si (mx_si (mx_si (mx_si Y1 0 12 (nI j)) 0 13 (0 : Int32)) 0 12 (nI mo)) 0 11 (4 : Int32))) = fX13_next_80 (mx_si (mx_si Y1 0 12 (nI j)) 0 13 (0 : Int32)) := by
      by_cases a : L ≤ mo
      · rw [if_pos a]
      · rw [if_neg a, if_pos (by omega)]
    rw [e80]
    have F2 : nN Y1 (mx_si (mx_si Y1 0 12 (nI j)) 0 13 (0 : Int32)) := (nN.rf.si (by omega)).si (by omega)
    have hY2 : ∃ Y2, Y2 = mx_si (mx_si Y1 0 12 (nI j)) 0 13 (0 : Int32) := ⟨_, rfl⟩
    obtain ⟨Y2, eY2⟩ := hY2
    rw [← eY2] at F2 ⊢
    have g4 : Y2.1 0 4 = nI j := by rw [eY2, si_nj (by omega), si_nj (by omega)]; exact s3
    have g12 : Y2.1 0 12 = nI (stJ L mo j) := by rw [eY2, si_nj (by omega), si_eq, hst]
    have g13 : Y2.1 0 13 = nI 0 := by rw [eY2, si_eq]; rfl
    have F3 := s2.tr F2
    have h2 := h.fr F2
    clear eY2 e80
    rw [fX13_next_80]
    by_cases hjL : j < L
    · have hb8 := (h.2.2.2.2 j hjL).2
      rw [m_peek h2 g4 hjL]
      simp only [pb_bs]
      rw [if_pos (nI_pos' (by omega)), m_small hb8, m_digit hb8]
      simp only [pb_bs]
      have run : tA (t j) = true → ∃ Y', fX13_next_164 (nI (t j)) Y2 = some Y' ∧ nN Y Y' ∧ Y'.1 0 4 = nI (enJ t L mo j) ∧ dR t L mo j Y' := by
        intro ha
        obtain ⟨r1, r2, r3, r4, r5⟩ := rne_sp (t := t) hj
        have hr5 := r5 hjL ha
        have hc := cSD t (rne t L j - j) j
        have hen : enJ t L mo j = rne t L j := by unfold enJ; rw [if_neg hb, if_neg (by omega), if_pos ha]
        have F4 : nN Y2 (mx_si (mx_sl Y2 0 17 (0 : Int64)) 0 14 (0 : Int32)) := nN.rf.sl.si (by omega)
        obtain ⟨Y3, a1, a2, a3, a4, a5, a6⟩ := m_wrun (b2 := tS (t j)) r2 r3 (rne t L j - j) j 0 mx_fu true (mx_si (mx_sl Y2 0 17 (0 : Int64)) 0 14 (0 : Int32)) (by omega) (by omega) r4 (by unfold mx_fu; omega) (h2.fr F4) (by rw [si_nj (by omega)]; exact g4) (by rw [si_nj (by omega)]; exact g13)
        have w0 : (mx_si (mx_sl Y2 0 17 (0 : Int64)) 0 14 (0 : Int32)).2.1 0 17 = 0 := sl_eq
        rw [w0] at a5
        rw [si_eq] at a6
        rw [si_nj (by omega), sl_i, g12] at a4
        rw [fX13_next_164, m_small hb8]
        simp only [pb_bs]
        rw [a1]
        refine ⟨_, rfl, (F3.tr (F4.tr a2)).si (by omega), by rw [si_nj (by omega), hen]; exact a3, by rw [si_nj (by omega)]; exact a4, ?_⟩
        rw [si_eq, si_nj (by omega), si_l2]
        have hk : kdJ t L mo j = if cD t j (rne t L j - j) = 0 ∧ cS t j (rne t L j - j) ≤ 7 then 2 else if cS t j (rne t L j - j) = 0 ∧ cD t j (rne t L j - j) ≤ 3 then 4 else 0 := by unfold kdJ; rw [if_neg hb, if_neg (by omega), if_pos ha]
        obtain ⟨m, hm'⟩ : ∃ m, rne t L j - j = m + 1 := ⟨rne t L j - j - 1, by omega⟩
        rw [Nat.zero_add]
        cases hS : tS (t j)
        · have hD1 : 1 ≤ cD t j (rne t L j - j) := by rw [hm', cD, hS]; simp only [Bool.false_eq_true, ↓reduceIte]; omega
          rw [gA_f, Bool.true_and]
          rw [if_neg (by omega)] at hk
          by_cases q : cS t j (rne t L j - j) = 0
          · by_cases q3 : cD t j (rne t L j - j) ≤ 3
            · rw [if_pos ⟨q, q3⟩] at hk
              rw [hk]
              simp [q, show rne t L j - j ≤ 3 by omega, a6]
            · rw [if_neg (fun z => q3 z.2)] at hk
              rw [hk]
              simp [q, show ¬ rne t L j - j ≤ 3 by omega]
          · rw [if_neg (fun z => q z.1)] at hk
            rw [hk]
            simp [q]
        · have hS1 : 1 ≤ cS t j (rne t L j - j) := by rw [hm', cS, hS]; simp only [↓reduceIte]; omega
          rw [gA_t, Bool.true_and]
          rw [if_neg (c := cS t j (rne t L j - j) = 0 ∧ cD t j (rne t L j - j) ≤ 3) (by omega)] at hk
          by_cases q : cD t j (rne t L j - j) = 0
          · by_cases q7 : cS t j (rne t L j - j) ≤ 7
            · rw [if_pos ⟨q, q7⟩] at hk
              rw [hk]
              simp [q, show rne t L j - j ≤ 7 by omega, a5]
            · rw [if_neg (fun z => q7 z.2)] at hk
              rw [hk]
              simp [q, show ¬ rne t L j - j ≤ 7 by omega]
          · rw [if_neg (fun z => q z.1)] at hk
            rw [hk]
            simp [q]
      cases hS : tS (t j)
      · rw [if_pos b_f]
        cases hD : tD (t j)
        · have ha : ¬ tA (t j) = true := by unfold tA; rw [hS, hD]; decide
          have hk : kdJ t L mo j = 5 := by unfold kdJ; rw [if_neg hb, if_neg (by omega), if_neg ha]
          have hen : enJ t L mo j = j + 1 := by unfold enJ; rw [if_neg hb, if_neg (by omega), if_neg ha]
          have k1 : (nI (t j) = (59 : Int32)) = (t j = 59) := propext (nI_eq (b := 59) (by omega) (by omega))
          have k2 : (nI (t j) = (40 : Int32)) = (t j = 40) := propext (nI_eq (b := 40) (by omega) (by omega))
          have k3 : (nI (t j) = (41 : Int32)) = (t j = 41) := propext (nI_eq (b := 41) (by omega) (by omega))
          have k4 : (nI (t j) < (60 : Int32)) = (t j < 60) := pb_lt (b := 60) (by omega) (by omega)
          have k5 : ((62 : Int32) < nI (t j)) = (62 < t j) := pb_lt (a := 62) (by omega) (by omega)
          rw [if_pos b_f]
          simp only [fX13_next_140, fX13_next_144, k1, k2, k3, k4, k5, m_n145 g4]
          have fin : ∀ v : Int32, v = (if sgC (t j) then 3 else 4) → ∃ Y', some (mx_si (mx_si (mx_si Y2 0 11 v) 0 14 (nI (t j))) 0 4 (nI (j + 1))) = some Y' ∧ nN Y Y' ∧ Y'.1 0 4 = nI (enJ t L mo j) ∧ dR t L mo j Y' := by
            intro v hv
            refine ⟨_, rfl, ((F3.si (by omega)).si (by omega)).si (by omega), by rw [si_eq, hen], ?_, ?_, ?_, ?_, ?_, ?_⟩
            · rw [si_nj (by omega), si_nj (by omega), si_nj (by omega)]; exact g12
            · intro q; rw [hk] at q; exact absurd q (by decide)
            · intro q; rw [hk] at q; exact absurd q (by decide)
            · intro q; rw [hk] at q; exact absurd q (by decide)
            · intro q; rw [hk] at q; exact absurd q (by decide)
            · intro _
              refine ⟨by rw [si_nj (by omega), si_eq], by rw [si_nj (by omega), si_nj (by omega), si_eq]; exact hv⟩
          by_cases q1 : t j = 59
          · rw [if_pos q1]; exact fin 3 (by simp [sgC, q1])
          · rw [if_neg q1]
            by_cases q2 : t j = 40
            · rw [if_pos q2]; exact fin 3 (by simp [sgC, q2])
            · rw [if_neg q2]
              by_cases q3 : t j = 41
              · rw [if_pos q3]; exact fin 3 (by simp [sgC, q3])
              · rw [if_neg q3]
                by_cases q4 : t j < 60
                · rw [if_pos q4]; exact fin 4 (by simp [sgC, q1, q2, q3, show ¬ 60 ≤ t j by omega])
                · rw [if_neg q4]
                  by_cases q5 : 62 < t j
                  · rw [if_pos q5]; exact fin 4 (by simp [sgC, q1, q2, q3, show ¬ t j ≤ 62 by omega])
                  · rw [if_neg q5]; exact fin 3 (by simp [sgC, show 60 ≤ t j by omega, show t j ≤ 62 by omega])
        · rw [if_neg b_t]
          exact run (by unfold tA; rw [hS, hD]; rfl)
      · rw [if_neg b_t]
        exact run (by unfold tA; rw [hS]; rfl)
    · rw [m_peek0 h2 g4 (by omega)]
      simp only [pb_bs]
      rw [if_neg (by decide)]
      have hk : kdJ t L mo j = 1 := by unfold kdJ; rw [if_neg hb, if_pos (by omega)]
      have hen : enJ t L mo j = j := by unfold enJ; rw [if_neg hb, if_pos (by omega)]
      refine ⟨_, rfl, F3.si (by omega), by rw [si_nj (by omega), hen]; exact g4, ?_, ?_, ?_, ?_, ?_, ?_⟩
      · rw [si_nj (by omega)]; exact g12
      · intro q; rw [hk] at q; exact absurd q (by decide)
      · intro _; exact si_eq
      all_goals intro q; rw [hk] at q; exact absurd q (by decide)
