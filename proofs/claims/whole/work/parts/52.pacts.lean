/-! acts: why not, and what comes of them, on S; both sides do just that -/
theorem si_eq {M : MM} {k j : Nat} {v : Int32} : (mx_si M k j v).1 k j = v := by simp [mx_si]
theorem si_nk {M : MM} {k j a b : Nat} {v : Int32} (h : a ≠ k) : (mx_si M k j v).1 a b = M.1 a b := by simp [mx_si, h]
theorem si_nj {M : MM} {k j b : Nat} {v : Int32} (h : b ≠ j) : (mx_si M k j v).1 k b = M.1 k b := by simp [mx_si, h]
theorem si_row {M : MM} {k j a : Nat} {v : Int32} (h : a ≠ k) : (mx_si M k j v).1 a = M.1 a := mx_si_ne h
/-- the reference's memory with another row S -/
def sS (M : MM) (S : Nat → Int32) : MM := (fun a b => if a = 2 then S b else M.1 a b, M.2)
theorem sS_2 {M : MM} {S : Nat → Int32} : (sS M S).1 2 = S := by funext b; simp [sS]
theorem sS_n {M : MM} {S : Nat → Int32} {a : Nat} (h : a ≠ 2) : (sS M S).1 a = M.1 a := by funext b; simp [sS, h]
theorem sS_s {M : MM} {S : Nat → Int32} : (sS M S).2 = M.2 := rfl
theorem sS_0 {M : MM} {j : Nat} {v : Int32} : mx_si M 2 j v = sS M (upd (M.1 2) j v) := by
  refine Prod.ext ?_ rfl
  funext a b
  by_cases ha : a = 2
  · subst ha
    simp [sS, mx_si, upd]
  · simp [sS, mx_si, ha]
theorem sS_i {M : MM} {S : Nat → Int32} {j : Nat} {v : Int32} : mx_si (sS M S) 2 j v = sS M (upd S j v) := by
  refine Prod.ext ?_ rfl
  funext a b
  by_cases ha : a = 2
  · subst ha
    simp [sS, mx_si, upd]
  · simp [sS, mx_si, ha]
theorem sS_self {M : MM} : sS M (M.1 2) = M := by
  refine Prod.ext ?_ rfl
  funext a b
  by_cases ha : a = 2
  · subst ha
    simp [sS]
  · simp [sS, ha]
theorem sS_sS {M : MM} {S S' : Nat → Int32} : sS (sS M S) S' = sS M S' := by
  refine Prod.ext ?_ rfl
  funext a b
  by_cases ha : a = 2 <;> simp [sS, ha]
/-- nothing changed but the state at o -/
def xFr (o : Nat) (X X' : MM) : Prop := (∀ k, (k < o ∨ o + 8 < k) → X'.1 k = X.1 k) ∧ X'.2 = X.2
theorem xFr.rf {o : Nat} {X : MM} : xFr o X X := ⟨fun _ _ => rfl, rfl⟩
theorem xFr.tr {o : Nat} {X Y Z : MM} (h1 : xFr o X Y) (h2 : xFr o Y Z) : xFr o X Z := ⟨fun k hk => (h2.1 k hk).trans (h1.1 k hk), h2.2.trans h1.2⟩
theorem xFr.ld {o : Nat} {X X' : MM} {S : Nat → Int32} {P N : Nat} (h : xFr o X X') (ho : 29 ≤ o) (hL : rLd X S P N) : rLd X' S P N := by
  obtain ⟨h, -⟩ := h
  unfold rLd at hL ⊢
  rw [h 9 (by omega), h 11 (by omega), h 12 (by omega), h 13 (by omega), h 15 (by omega), h 16 (by omega), h 17 (by omega), h 18 (by omega)]
  exact hL
theorem xFr.si {o k j : Nat} {X X' : MM} {v : Int32} (h : xFr o X X') (hk : o ≤ k ∧ k ≤ o + 8) : xFr o X (mx_si X' k j v) := ⟨fun a ha => by rw [si_row (by omega)]; exact h.1 a ha, h.2⟩
/-! distances -/
theorem pabs_nI {a b : Nat} (ha : a ≤ 20) (hb : b ≤ 20) : ∃ d, d ≤ 20 ∧ pabs (nI a - nI b) = nI d ∧ (d = 0 ↔ a = b) := by
  rcases Nat.le_total b a with h | h
  · refine ⟨a - b, by omega, ?_, by omega⟩
    rw [pk_sub h, pabs, if_pos (nI_pos' (by omega))]
  · rcases Nat.eq_or_lt_of_le h with h | h
    · subst h
      refine ⟨0, by omega, ?_, by simp⟩
      rw [pk_sub (Nat.le_refl _), pabs, if_pos (nI_pos' (by omega)), Nat.sub_self]
    · refine ⟨b - a, by omega, ?_, by omega⟩
      have h1 : nI a - nI b < 0 := pk_sneg (by omega) h
      rw [pabs, if_neg (Int32.not_le.mpr h1), Int32.neg_sub, pk_sub (by omega)]
theorem sFar_nI {S : Nat → Int32} {P N q : Nat} {a b : Nat} (hS : wSt S P N) (hq : q < P) (ha : a ≤ 20) (hb : b ≤ 20) : ∃ d, d ≤ 40 ∧ sFar S q (nI a) (nI b) = nI d := by
  obtain ⟨-, h, -⟩ := hS
  obtain ⟨⟨x, hx, ex⟩, ⟨y, hy, ey⟩, -⟩ := h q hq
  obtain ⟨d1, h1, e1, -⟩ := pabs_nI hx ha
  obtain ⟨d2, h2, e2, -⟩ := pabs_nI hy hb
  exact ⟨d1 + d2, by omega, by rw [sFar, ex, ey, e1, e2, nI_add]⟩
theorem sFar_le {S : Nat → Int32} {P N q : Nat} {a b : Nat} (hS : wSt S P N) (hq : q < P) (ha : a ≤ 20) (hb : b ≤ 20) : (sFar S q (nI a) (nI b) ≤ 0) = (sFar S q (nI a) (nI b) = 0) := by
  obtain ⟨d, hd, e⟩ := sFar_nI hS hq ha hb
  rw [e, c0, pb_le (by omega) (by omega), propext (nI_eq (by omega) (by omega))]
  simp
/-! to go -/
def sWhyGo (S : Nat → Int32) (q : Nat) (x y : Int32) : Int32 := if sFar S q x y = 0 then 1 else if sFar S q x y ≤ S (71 + q) then 0 else 2
def sGo (S : Nat → Int32) (q : Nat) (x y : Int32) : Nat → Int32 := upd (upd (upd (upd S (71 + q) (S (71 + q) - sFar S q x y)) 56 (S 56 + sFar S q x y)) (57 + q) x) (64 + q) y
theorem m_whyGo {q : Nat} {x y : Int32} {M : MM} (hq : q < 7) : fX13_whyGo (nI q) x y M = some (sWhyGo (M.1 2) q x y) := by
  rw [fX13_whyGo, m_farBy hq, c71]
  simp only [nI_add, pb_bs]
  rw [pb_gd (by omega) (by omega), nI_clamp (by omega), sWhyGo]
  split
  · rfl
  · split <;> rfl
theorem m_goes {q : Nat} {x y : Int32} {M : MM} (hq : q < 7) : fX13_goes (nI q) x y M = some (sS M (sGo (M.1 2) q x y)) := by
  rw [fX13_goes, m_farBy hq, c71, c57, c64]
  simp only [nI_add, pb_bs]
  rw [pb_gd (by omega) (by omega), pb_gd (by omega) (by omega), pb_gd (by omega) (by omega), pb_gd (by omega) (by omega), nI_clamp (by omega), nI_clamp (by omega), nI_clamp (by omega)]
  simp (disch := omega) only [sS_0, sS_sS, sS_2, pk_un, sGo]
theorem x_walkTo {o q : Nat} {x y : Int32} {P N : Nat} {X : MM} {S : Nat → Int32} (hR : rSt o X S P N) (hq : q < P) (hP : P ≤ 7) (hN : N ≤ 7) : ∃ X', fX9_walkTo o (nI q) x y X = some (sWhyGo S q x y, X') ∧ xFr o X X' ∧ X'.1 o 12 = X.1 o 12 ∧ (sWhyGo S q x y ≠ 0 → X' = X) ∧ (sWhyGo S q x y = 0 → rSt o X' (sGo S q x y) P N) := by
  have h3 : X.1 (o + 3) q = S (71 + q) := (hR.2.2.2.1 q hq).2.2
  rw [fX9_walkTo, x_farTo hR hq hP]
  simp only [pb_bs]
  rw [pb_gd (by omega) (by omega), pb_gd (by omega) (by omega), pb_gd (by omega) (by omega), pb_gd (by omega) (by omega), pb_gd (by omega) (by omega), nI_clamp (by omega), h3, sWhyGo]
  by_cases h0 : sFar S q x y = 0
  · rw [if_pos h0, if_pos h0]
    exact ⟨X, rfl, xFr.rf, rfl, fun _ => rfl, fun h => absurd h (by decide)⟩
  · rw [if_neg h0, if_neg h0]
    by_cases h1 : sFar S q x y ≤ S (71 + q)
    · rw [if_pos h1, if_pos h1]
      refine ⟨_, rfl, (((xFr.rf.si (by omega)).si (by omega)).si (by omega)).si (by omega), ?_, fun h => absurd rfl h, fun _ => ?_⟩
      · simp (disch := omega) only [si_nk, si_nj]
      · obtain ⟨g1, g2, g3, g4, g5⟩ := hR
        refine ⟨?_, ?_, ?_, fun p hp => ?_, fun r hr => ?_⟩
        · simp (disch := omega) only [si_nk, si_nj, sGo, pk_un]
          exact g1
        · simp (disch := omega) only [si_nk, si_nj, sGo, pk_un]
          exact g2
        · simp (disch := omega) only [si_eq, si_nk, si_nj, sGo, pk_un, pk_us]
          rw [g3]
        · obtain ⟨k1, k2, k3⟩ := g4 p hp
          by_cases hpq : p = q
          · subst hpq
            simp (disch := omega) only [si_eq, si_nk, si_nj, sGo, pk_un, pk_us]
            rw [h3]
            exact ⟨trivial, trivial, rfl⟩
          · simp (disch := omega) only [si_nk, si_nj, sGo, pk_un]
            exact ⟨k1, k2, k3⟩
        · simp (disch := omega) only [si_nk, si_nj, sGo, pk_un]
          exact g5 r hr
    · rw [if_neg h1, if_neg h1]
      exact ⟨X, rfl, xFr.rf, rfl, fun _ => rfl, fun h => absurd h (by decide)⟩
/-! to hand -/
def sWhyHand (S : Nat → Int32) (q r t : Nat) : Int32 := if q = t then 1 else if sKeeps S (nI q) r = false then 2 else if sFar S q (S (57 + t)) (S (64 + t)) = 0 then 0 else 3
def sHand (S : Nat → Int32) (r t : Nat) : Nat → Int32 := upd (upd S (78 + r) (nI t)) 55 (S 55 + 1)
theorem m_whyHand {q r t P N : Nat} {M : MM} (hS : wSt (M.1 2) P N) (hP : P ≤ 7) (hq : q < P) (hr : r < 7) (ht : t < P) : fX13_whyHand (nI q) (nI r) (nI t) M = some (sWhyHand (M.1 2) q r t) := by
  obtain ⟨⟨a, ha, ea⟩, ⟨b, hb, eb⟩, -⟩ := hS.2.1 t ht
  rw [fX13_whyHand, m_keeps hr, m_farOf (by omega) (by omega), ea, eb, sWhyHand, ea, eb]
  simp only [pb_bs, pb_b0, sFar_le hS hq ha hb, propext (nI_eq (a := q) (b := t) (by omega) (by omega))]
  split
  · rfl
  · split
    · rfl
    · split <;> rfl
theorem m_hands {r t : Nat} {M : MM} (hr : r < 7) : fX13_hands (nI r) (nI t) M = some (sS M (sHand (M.1 2) r t)) := by
  rw [fX13_hands, c78]
  simp only [nI_add]
  rw [pb_gd (by omega) (by omega), nI_clamp (by omega)]
  simp (disch := omega) only [sS_0, sS_sS, sS_2, pk_un, sHand]
theorem sFar_zero {S : Nat → Int32} {P N q t : Nat} (hS : wSt S P N) (hq : q < P) (ht : t < P) : (sFar S q (S (57 + t)) (S (64 + t)) = 0) = (S (57 + q) = S (57 + t) ∧ S (64 + q) = S (64 + t)) := by
  obtain ⟨-, h, -⟩ := hS
  obtain ⟨⟨x, hx, ex⟩, ⟨y, hy, ey⟩, -⟩ := h q hq
  obtain ⟨⟨a, ha, ea⟩, ⟨b, hb, eb⟩, -⟩ := h t ht
  obtain ⟨d1, h1, e1, z1⟩ := pabs_nI hx ha
  obtain ⟨d2, h2, e2, z2⟩ := pabs_nI hy hb
  rw [sFar, ex, ey, ea, eb, e1, e2, nI_add, c0, propext (nI_eq (a := d1 + d2) (b := 0) (by omega) (by omega)), propext (nI_eq (a := x) (b := a) (by omega) (by omega)), propext (nI_eq (a := y) (b := b) (by omega) (by omega)), ← propext z1, ← propext z2]
  apply propext
  omega
theorem x_isBy {o q t : Nat} {P N : Nat} {X : MM} {S : Nat → Int32} (x0 : X.1 9 0 = nI P) (hR : rSt o X S P N) (hS : wSt S P N) (hq : q < P) (ht : t < P) (hP : P ≤ 7) : fX9_isBy o (nI q) (nI t) X = some (decide (sFar S q (S (57 + t)) (S (64 + t)) = 0)) := by
  have e : fX3_isPerson (nI t) X = some true := by
    rw [fX3_isPerson, x0, if_neg (nI_pos (by omega)), if_neg (nI_ge ht (by omega))]
  obtain ⟨-, -, -, h, -⟩ := hR
  obtain ⟨a1, a2, -⟩ := h q hq
  obtain ⟨b1, b2, -⟩ := h t ht
  have z := sFar_zero hS hq ht
  rw [fX9_isBy, e]
  simp only [pb_bs]
  rw [if_neg (show ¬ mx_b true = 0 by decide), pb_gd (by omega) (by omega), pb_gd (by omega) (by omega), pb_gd (by omega) (by omega), pb_gd (by omega) (by omega), nI_clamp (show q < 2 ^ 31 by omega), nI_clamp (show t < 2 ^ 31 by omega), a1, a2, b1, b2]
  by_cases h1 : S (57 + q) = S (57 + t)
  · rw [if_pos h1]
    by_cases h2 : S (64 + q) = S (64 + t)
    · rw [if_pos h2, show decide (sFar S q (S (57 + t)) (S (64 + t)) = 0) = true from decide_eq_true (z.mpr ⟨h1, h2⟩)]
    · rw [if_neg h2, show decide (sFar S q (S (57 + t)) (S (64 + t)) = 0) = false from decide_eq_false (fun k => h2 (z.mp k).2)]
  · rw [if_neg h1, show decide (sFar S q (S (57 + t)) (S (64 + t)) = 0) = false from decide_eq_false (fun k => h1 (z.mp k).1)]
theorem x_passOn {o q r t : Nat} {P N : Nat} {X : MM} {S : Nat → Int32} (x0 : X.1 9 0 = nI P) (hR : rSt o X S P N) (hS : wSt S P N) (hq : q < P) (hr : r < N) (ht : t < P) (hP : P ≤ 7) (hN : N ≤ 7) : ∃ X', fX9_passOn o (nI q) (nI r) (nI t) X = some (sWhyHand S q r t, X') ∧ xFr o X X' ∧ X'.1 o 12 = X.1 o 12 ∧ (sWhyHand S q r t ≠ 0 → X' = X) ∧ (sWhyHand S q r t = 0 → rSt o X' (sHand S r t) P N) := by
  rw [fX9_passOn, x_isKeptBy hR hr hN, x_isBy x0 hR hS hq ht hP]
  simp only [pb_bs, pb_b0, propext (nI_eq (a := q) (b := t) (by omega) (by omega))]
  rw [pb_gd (by omega) (by omega), nI_clamp (by omega), sWhyHand]
  by_cases h0 : q = t
  · rw [if_pos h0, if_pos h0]
    exact ⟨X, rfl, xFr.rf, rfl, fun _ => rfl, fun h => absurd h (by decide)⟩
  rw [if_neg h0, if_neg h0]
  by_cases h1 : sKeeps S (nI q) r = false
  · rw [if_pos h1, if_pos h1]
    exact ⟨X, rfl, xFr.rf, rfl, fun _ => rfl, fun h => absurd h (by decide)⟩
  rw [if_neg h1, if_neg h1]
  by_cases h2 : sFar S q (S (57 + t)) (S (64 + t)) = 0
  · rw [if_neg (show ¬ decide (sFar S q (S (57 + t)) (S (64 + t)) = 0) = false by simp [h2]), if_pos h2]
    refine ⟨_, rfl, (xFr.rf.si (by omega)).si (by omega), ?_, fun h => absurd rfl h, fun _ => ?_⟩
    · simp (disch := omega) only [si_nk, si_nj]
    · have hk : S (85 + r) = 0 := by
        simp only [sKeeps, Bool.not_eq_false, Bool.and_eq_true, decide_eq_true_eq] at h1
        exact h1.1
      obtain ⟨g1, g2, g3, g4, g5⟩ := hR
      refine ⟨?_, ?_, ?_, fun p hp => ?_, fun j hj => ?_⟩
      · simp (disch := omega) only [si_nk, si_nj, sHand, pk_un]
        exact g1
      · simp (disch := omega) only [si_eq, si_nk, si_nj, sHand, pk_un, pk_us]
        rw [g2]
      · simp (disch := omega) only [si_nk, si_nj, sHand, pk_un]
        exact g3
      · simp (disch := omega) only [si_nk, si_nj, sHand, pk_un]
        exact g4 p hp
      · obtain ⟨k1, k2, k3, k4⟩ := g5 j hj
        by_cases hjr : j = r
        · subst hjr
          simp (disch := omega) only [si_eq, si_nk, si_nj, sHand, pk_un, pk_us]
          exact ⟨k1, k2, fun _ => trivial, fun h => absurd (hk.symm.trans h) (by decide)⟩
        · simp (disch := omega) only [si_nk, si_nj, sHand, pk_un]
          exact ⟨k1, k2, k3, k4⟩
  · rw [if_pos (show decide (sFar S q (S (57 + t)) (S (64 + t)) = 0) = false by simp [h2]), if_neg h2]
    exact ⟨X, rfl, xFr.rf, rfl, fun _ => rfl, fun h => absurd h (by decide)⟩
/-! to wear -/
/-- how a size is on a person -/
def sFeel (S : Nat → Int32) (z : Int32) (q : Nat) : Int32 := if S (19 + q) - S 2 ≤ z then if z ≤ S (19 + q) + S 2 then 1 else 2 else 0
theorem pk_toInt {a b : Nat} (ha : a < 2 ^ 30) (hb : b < 2 ^ 30) : (nI a + nI b).toInt = (a : Int) + b := by
  rw [nI_add, nI_toInt (by omega)]
  omega
theorem feel_1 {a b c : Nat} (ha : a ≤ 1000) (hb : b ≤ 1000) (hc : c ≤ 1000) : (-(nI c) ≤ nI a - nI b) = (nI b - nI c ≤ nI a) := by
  have h1 : (-(nI c)).toInt = -(c : Int) := by
    have := pk_sub_toInt (a := 0) (b := c) (by omega) (by omega)
    rw [← c0, Int32.zero_sub] at this
    omega
  rw [Int32.le_iff_toInt_le, Int32.le_iff_toInt_le, h1, pk_sub_toInt (by omega) (by omega), pk_sub_toInt (by omega) (by omega), nI_toInt (by omega)]
  apply propext
  omega
theorem feel_2 {a b c : Nat} (ha : a ≤ 1000) (hb : b ≤ 1000) (hc : c ≤ 1000) : (nI a - nI b ≤ nI c) = (nI a ≤ nI b + nI c) := by
  rw [Int32.le_iff_toInt_le, Int32.le_iff_toInt_le, pk_sub_toInt (by omega) (by omega), pk_toInt (by omega) (by omega), nI_toInt (by omega), nI_toInt (by omega)]
  apply propext
  omega
theorem m_feels {z : Int32} {q : Nat} {M : MM} (hq : q < 7) : fX13_feels z (nI q) M = some (sFeel (M.1 2) z q) := by
  rw [fX13_feels, c19]
  simp only [nI_add]
  rw [pb_gd (by omega) (by omega), pb_gd (by omega) (by omega), nI_clamp (by omega), sFeel]
  split
  · split <;> rfl
  · rfl
theorem x_feel {z q P N : Nat} {X : MM} {S : Nat → Int32} (hW : wLd S P N) (hL : rLd X S P N) (hz : z ≤ 1000) (hq : q < P) : fX3_feel (nI z) (nI q) X = some (sFeel S (nI z) q) := by
  obtain ⟨-, hP, -, hN, ⟨f, hf, ef⟩, -, -, hp, -⟩ := hW
  obtain ⟨-, -, ⟨a, ha1, ha2, ea⟩⟩ := hp q hq
  rw [fX3_feel, pb_gd (by omega) (by omega), nI_clamp (by omega), hL.2.2.1, (hL.2.2.2.2.2.1 q hq).2.2, sFeel, ef, ea]
  simp only [feel_1 (a := z) (b := a) (c := f) (by omega) (by omega) (by omega), feel_2 (a := z) (b := a) (c := f) (by omega) (by omega) (by omega)]
  split
  · split <;> rfl
  · rfl
def sFit (S : Nat → Int32) (r q : Nat) : Bool := decide (sFeel S (S (26 + r)) q = 1)
theorem m_isFit {r q : Nat} {M : MM} (hr : r < 7) (hq : q < 7) : fX13_isFit (nI r) (nI q) M = some (sFit (M.1 2) r q) := by
  rw [fX13_isFit, c26]
  simp only [nI_add]
  rw [pb_gd (by omega) (by omega), nI_clamp (by omega), m_feels hq, sFit]
  simp only [pb_bs]
  split <;> simp_all
theorem sWorn_neg {S : Nat → Int32} {N : Nat} {q : Int32} (hN : N ≤ 7) : (sWorn S N q < 0) = (sWorn S N q = -1) := by
  unfold sWorn
  split
  · rename_i h
    have h1 : ¬ nI (pfst (sWears S q) 0 N) < 0 := nI_pos (by omega)
    apply propext
    constructor
    · intro h; exact absurd h h1
    · intro h; exfalso; apply h1; rw [h]; decide
  · simp
def sWhyWear (S : Nat → Int32) (N q r : Nat) : Int32 := if sKeeps S (nI q) r = false then 1 else if sWorn S N (nI q) = -1 then if sFit S r q then 0 else 3 else 2
theorem m_whyWear {q r N : Nat} {M : MM} (hN : N ≤ 7) (h1 : M.1 2 1 = nI N) (hq : q < 7) (hr : r < 7) : fX13_whyWear (nI q) (nI r) M = some (sWhyWear (M.1 2) N q r) := by
  rw [fX13_whyWear, m_keeps hr, m_wornBy hN h1, m_isFit hr hq, sWhyWear]
  simp only [pb_bs, pb_b0, sWorn_neg hN]
  split
  · rfl
  · split
    · cases sFit (M.1 2) r q <;> rfl
    · rfl
theorem rSt_how {o r P N : Nat} {X : MM} {S : Nat → Int32} {v : Int32} (hR : rSt o X S P N) (hr : r < N) (hN : N ≤ 7) (hP : P ≤ 7) (h2 : S (85 + r) ≠ 2) (hv : v ≠ 2) : rSt o (mx_si X (o + 5) r v) (upd S (85 + r) v) P N := by
  obtain ⟨g1, g2, g3, g4, g5⟩ := hR
  refine ⟨?_, ?_, ?_, fun p hp => ?_, fun j hj => ?_⟩
  · simp (disch := omega) only [si_nk, si_nj, pk_un]
    exact g1
  · simp (disch := omega) only [si_nk, si_nj, pk_un]
    exact g2
  · simp (disch := omega) only [si_nk, si_nj, pk_un]
    exact g3
  · simp (disch := omega) only [si_nk, si_nj, pk_un]
    exact g4 p hp
  · obtain ⟨k1, k2, k3, k4⟩ := g5 j hj
    by_cases hjr : j = r
    · subst hjr
      simp (disch := omega) only [si_eq, si_nk, si_nj, pk_un, pk_us]
      exact ⟨trivial, k2, fun _ => k3 h2, fun h => absurd h hv⟩
    · simp (disch := omega) only [si_nk, si_nj, pk_un]
      exact ⟨k1, k2, k3, k4⟩
theorem x_putOn {o q r : Nat} {P N : Nat} {X : MM} {S : Nat → Int32} (hW : wLd S P N) (hL : rLd X S P N) (hR : rSt o X S P N) (hq : q < P) (hr : r < N) : ∃ X', fX9_putOn o (nI q) (nI r) X = some (sWhyWear S N q r, X') ∧ xFr o X X' ∧ X'.1 o 12 = X.1 o 12 ∧ (sWhyWear S N q r ≠ 0 → X' = X) ∧ (sWhyWear S N q r = 0 → rSt o X' (upd S (85 + r) 1) P N) := by
  obtain ⟨-, hP, e1, hN, -, -, -, -, hrr⟩ := id hW
  obtain ⟨⟨z, hz1, hz2, ez⟩, -⟩ := hrr r hr
  rw [fX9_putOn, x_isKeptBy hR hr hN, x_wornBy (by rw [hL.2.1, e1]) hR hN]
  simp only [pb_bs, pb_b0]
  rw [pb_gd (by omega) (by omega), pb_gd (by omega) (by omega), nI_clamp (by omega), (hL.2.2.2.2.2.2 r hr).1, ez, x_feel hW hL (by omega) hq, sWhyWear, sFit, ez]
  simp only [pb_bs]
  by_cases h1 : sKeeps S (nI q) r = false
  · rw [if_pos h1, if_pos h1]
    exact ⟨X, rfl, xFr.rf, rfl, fun _ => rfl, fun h => absurd h (by decide)⟩
  rw [if_neg h1, if_neg h1]
  by_cases h2 : sWorn S N (nI q) = -1
  · rw [if_pos h2, if_pos h2]
    by_cases h3 : sFeel S (nI z) q = 1
    · rw [if_pos h3, if_pos (by simp [h3])]
      refine ⟨_, rfl, xFr.rf.si (by omega), ?_, fun h => absurd rfl h, fun _ => ?_⟩
      · simp (disch := omega) only [si_nk, si_nj]
      · simp only [sKeeps, Bool.not_eq_false, Bool.and_eq_true, decide_eq_true_eq] at h1
        exact rSt_how hR hr hN hP (by rw [h1.1]; decide) (by decide)
    · rw [if_neg h3, if_neg (by simp [h3])]
      exact ⟨X, rfl, xFr.rf, rfl, fun _ => rfl, fun h => absurd h (by decide)⟩
  · rw [if_neg h2, if_neg h2]
    exact ⟨X, rfl, xFr.rf, rfl, fun _ => rfl, fun h => absurd h (by decide)⟩
/-! to doff -/
def sDoff (S : Nat → Int32) (N q : Nat) : Nat → Int32 := upd S (85 + pfst (sWears S (nI q)) 0 N) 0
theorem sWorn_is {S : Nat → Int32} {N : Nat} {q : Int32} (hN : N ≤ 7) (h : sWorn S N q ≠ -1) : sWorn S N q = nI (pfst (sWears S q) 0 N) ∧ pfst (sWears S q) 0 N < N ∧ S (85 + pfst (sWears S q) 0 N) = 1 ∧ S (78 + pfst (sWears S q) 0 N) = q := by
  unfold sWorn at h ⊢
  by_cases hk : pfst (sWears S q) 0 N < N
  · rw [if_pos hk] at h ⊢
    have := pfst_is (sWears S q) N 0 (by omega)
    simp only [sWears, Bool.and_eq_true, decide_eq_true_eq] at this
    exact ⟨rfl, hk, this.1, this.2⟩
  · rw [if_neg hk] at h
    exact absurd rfl h
theorem x_takeOff {o q : Nat} {P N : Nat} {X : MM} {S : Nat → Int32} (hL : X.1 9 1 = nI N) (hR : rSt o X S P N) (hP : P ≤ 7) (hN : N ≤ 7) : ∃ X', fX9_takeOff o (nI q) X = some (if sWorn S N (nI q) = -1 then 1 else 0, X') ∧ xFr o X X' ∧ X'.1 o 12 = X.1 o 12 ∧ (sWorn S N (nI q) = -1 → X' = X) ∧ (sWorn S N (nI q) ≠ -1 → rSt o X' (sDoff S N q) P N) := by
  rw [fX9_takeOff, x_wornBy hL hR hN]
  simp only [pb_bs]
  by_cases h : sWorn S N (nI q) = -1
  · rw [if_pos h, if_pos h]
    exact ⟨X, rfl, xFr.rf, rfl, fun _ => rfl, fun h' => absurd h h'⟩
  · obtain ⟨e, hk, h1, h2⟩ := sWorn_is hN h
    rw [if_neg h, if_neg h, e, pb_gd (by omega) (by omega), nI_clamp (by omega)]
    refine ⟨_, rfl, xFr.rf.si (by omega), ?_, fun h' => absurd (e.trans h') h, fun _ => ?_⟩
    · simp (disch := omega) only [si_nk, si_nj]
    · exact rSt_how hR hk hN hP (by rw [h1]; decide) (by decide)
/-! to find -/
def sWhyFind (S : Nat → Int32) (q r : Nat) : Int32 := if S (85 + r) = 2 then if sFar S q (S (99 + r)) (S (106 + r)) = 0 then 0 else 2 else 1
def sFind (S : Nat → Int32) (q r : Nat) : Nat → Int32 := upd (upd (upd (upd S (85 + r) 0) (78 + r) (nI q)) (99 + r) 0) (106 + r) 0
theorem m_whyFind {q r P N : Nat} {M : MM} (hS : wSt (M.1 2) P N) (hP : P ≤ 7) (hN : N ≤ 7) (hq : q < P) (hr : r < N) : fX13_whyFind (nI q) (nI r) M = some (sWhyFind (M.1 2) q r) := by
  obtain ⟨-, -, ⟨a, ha, ea⟩, ⟨b, hb, eb⟩⟩ := hS.2.2 r hr
  rw [fX13_whyFind, c85, c99, c106]
  simp only [nI_add]
  rw [pb_gd (by omega) (by omega), pb_gd (by omega) (by omega), pb_gd (by omega) (by omega), nI_clamp (by omega), nI_clamp (by omega), nI_clamp (by omega), m_farBy (by omega), ea, eb, sWhyFind, ea, eb]
  simp only [pb_bs, sFar_le hS hq ha hb]
  split
  · split <;> rfl
  · rfl
theorem m_finds {q r : Nat} {M : MM} (hr : r < 7) : fX13_finds (nI q) (nI r) M = some (sS M (sFind (M.1 2) q r)) := by
  rw [fX13_finds, c85, c78, c99, c106]
  simp only [nI_add]
  rw [pb_gd (by omega) (by omega), pb_gd (by omega) (by omega), pb_gd (by omega) (by omega), pb_gd (by omega) (by omega), nI_clamp (by omega), nI_clamp (by omega), nI_clamp (by omega), nI_clamp (by omega)]
  simp (disch := omega) only [sS_0, sS_sS, sS_2, sFind]
theorem x_pickUp {o q r : Nat} {P N : Nat} {X : MM} {S : Nat → Int32} (hR : rSt o X S P N) (hq : q < P) (hr : r < N) (hP : P ≤ 7) (hN : N ≤ 7) : ∃ X', fX9_pickUp o (nI q) (nI r) X = some (sWhyFind S q r, X') ∧ xFr o X X' ∧ X'.1 o 12 = X.1 o 12 ∧ (sWhyFind S q r ≠ 0 → X' = X) ∧ (sWhyFind S q r = 0 → rSt o X' (sFind S q r) P N) := by
  obtain ⟨k1, k2, k3, k4⟩ := hR.2.2.2.2 r hr
  rw [fX9_pickUp, pb_gd (by omega) (by omega), pb_gd (by omega) (by omega), pb_gd (by omega) (by omega), pb_gd (by omega) (by omega), pb_gd (by omega) (by omega), nI_clamp (by omega), k1, x_farTo hR hq hP, sWhyFind]
  simp only [pb_bs]
  by_cases h1 : S (85 + r) = 2
  · obtain ⟨j1, j2, j3⟩ := k4 h1
    rw [if_pos h1, if_pos h1, j2, j3]
    by_cases h2 : sFar S q (S (99 + r)) (S (106 + r)) = 0
    · rw [if_pos h2, if_pos h2]
      refine ⟨_, rfl, (xFr.rf.si (by omega)).si (by omega), ?_, fun h => absurd rfl h, fun _ => ?_⟩
      · simp (disch := omega) only [si_nk, si_nj]
      · obtain ⟨g1, g2, g3, g4, g5⟩ := hR
        refine ⟨?_, ?_, ?_, fun p hp => ?_, fun j hj => ?_⟩
        · simp (disch := omega) only [si_nk, si_nj, sFind, pk_un]
          exact g1
        · simp (disch := omega) only [si_nk, si_nj, sFind, pk_un]
          exact g2
        · simp (disch := omega) only [si_nk, si_nj, sFind, pk_un]
          exact g3
        · simp (disch := omega) only [si_nk, si_nj, sFind, pk_un]
          exact g4 p hp
        · obtain ⟨i1, i2, i3, i4⟩ := g5 j hj
          by_cases hjr : j = r
          · subst hjr
            simp (disch := omega) only [si_eq, si_nk, si_nj, sFind, pk_un, pk_us]
            exact ⟨trivial, i2, fun _ => trivial, fun h => absurd h (by decide)⟩
          · simp (disch := omega) only [si_nk, si_nj, sFind, pk_un]
            exact ⟨i1, i2, i3, i4⟩
    · rw [if_neg h2, if_neg h2]
      exact ⟨X, rfl, xFr.rf, rfl, fun _ => rfl, fun h => absurd h (by decide)⟩
  · rw [if_neg h1, if_neg h1]
    exact ⟨X, rfl, xFr.rf, rfl, fun _ => rfl, fun h => absurd h (by decide)⟩
