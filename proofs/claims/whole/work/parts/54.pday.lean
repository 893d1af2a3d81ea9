/-! a day -/
def pbN (f : Nat → Bool) (N : Nat) : Nat := (pbits f N).toNatClampNeg
theorem pbN_spec {f : Nat → Bool} {N : Nat} (hN : N ≤ 7) : pbN f N < 128 ∧ pbits f N = nI (pbN f N) ∧ ∀ r, (pbN f N).testBit r = (decide (r < N) && f r) := by
  obtain ⟨m, h1, h2, h3⟩ := pbits_nI (f := f) hN
  have : pbN f N = m := by rw [pbN, h2, nI_clamp (by omega)]
  rw [this]
  exact ⟨h1, h2, h3⟩
theorem pbN_congr {f g : Nat → Bool} {N : Nat} (h : ∀ k, k < N → f k = g k) : pbN f N = pbN g N := by rw [pbN, pbN, pbits_congr h]
theorem pfor_succ {σ : Type} (f : Nat → σ → σ) : ∀ (c k : Nat) (s : σ), pfor f k (c + 1) s = f (k + c) (pfor f k c s) := by
  intro c
  induction c with
  | zero => intro k s; rfl
  | succ c ih =>
    intro k s
    rw [pfor, ih (k + 1) (f k s), pfor, show k + 1 + c = k + (c + 1) by omega]
theorem loop_rel {σ ρ : Type} (F : Nat → Nat → σ → Option ρ) (N : Nat) (R : Nat → σ → Prop) (fin : σ → Option ρ) (h0 : ∀ n X, R N X → F (n + 1) N X = fin X) (hs : ∀ n k X, k < N → R k X → ∃ X', F (n + 1) k X = F n (k + 1) X' ∧ R (k + 1) X') :
    ∀ c k n X, k + c = N → c < n → R k X → ∃ X', F n k X = fin X' ∧ R N X' := by
  intro c
  induction c with
  | zero =>
    intro k n X hk hn hR
    obtain ⟨n, rfl⟩ : ∃ z, n = z + 1 := ⟨n - 1, by omega⟩
    have hk : k = N := by omega
    subst hk
    exact ⟨X, h0 n X hR, hR⟩
  | succ c ih =>
    intro k n X hk hn hR
    obtain ⟨n, rfl⟩ : ∃ z, n = z + 1 := ⟨n - 1, by omega⟩
    obtain ⟨X', h1, h2⟩ := hs n k X (by omega) hR
    obtain ⟨X'', h3, h4⟩ := ih (k + 1) n X' (by omega) (by omega) h2
    exact ⟨X'', by rw [h1, h3], h4⟩
def sameL (S S' : Nat → Int32) : Prop := ∀ i, i < 54 → S' i = S i
theorem wLd_same {S S' : Nat → Int32} {P N : Nat} (h : sameL S S') (hW : wLd S P N) : wLd S' P N := by
  obtain ⟨w0, w1, w2, w3, w4, w5, w6, w7, w8⟩ := hW
  refine ⟨by rw [h 0 (by omega)]; exact w0, w1, by rw [h 1 (by omega)]; exact w2, w3, by rw [h 2 (by omega)]; exact w4, by rw [h 3 (by omega)]; exact w5, by rw [h 4 (by omega)]; exact w6, fun p hp => ?_, fun r hr => ?_⟩
  · rw [h (5 + p) (by omega), h (12 + p) (by omega), h (19 + p) (by omega)]
    exact w7 p hp
  · rw [h (26 + r) (by omega), h (33 + r) (by omega), h (40 + r) (by omega), h (47 + r) (by omega)]
    exact w8 r hr
theorem rLd_same {X : MM} {S S' : Nat → Int32} {P N : Nat} (hP : P ≤ 7) (hN : N ≤ 7) (h : sameL S S') (hL : rLd X S P N) : rLd X S' P N := by
  obtain ⟨w0, w1, w2, w3, w4, w5, w6⟩ := hL
  refine ⟨by rw [h 0 (by omega)]; exact w0, by rw [h 1 (by omega)]; exact w1, by rw [h 2 (by omega)]; exact w2, by rw [h 3 (by omega)]; exact w3, by rw [h 4 (by omega)]; exact w4, fun p hp => ?_, fun r hr => ?_⟩
  · rw [h (5 + p) (by omega), h (12 + p) (by omega), h (19 + p) (by omega)]
    exact w5 p hp
  · rw [h (26 + r) (by omega), h (33 + r) (by omega), h (40 + r) (by omega), h (47 + r) (by omega)]
    exact w6 r hr
theorem sameL.rf {S : Nat → Int32} : sameL S S := fun _ _ => rfl
theorem sameL.tr {S S' S'' : Nat → Int32} (h1 : sameL S S') (h2 : sameL S' S'') : sameL S S'' := fun i hi => (h2 i hi).trans (h1 i hi)
theorem sameL.up {S S' : Nat → Int32} {k : Nat} {v : Int32} (h : sameL S S') (hk : 54 ≤ k) : sameL S (upd S' k v) := fun i hi => by rw [pk_un (by omega)]; exact h i hi
def sDue (r : Nat) (S : Nat → Int32) : Nat → Int32 := if S (47 + r) = S 54 then upd S (92 + r) (if sHas S (S (33 + r)) r then 1 else 2) else S
def sLose (S : Nat → Int32) (q r : Nat) : Nat → Int32 := upd (upd (upd (upd S (85 + r) 2) (78 + r) 0) (99 + r) (S (57 + q))) (106 + r) (S (64 + q))
def sDrain (N q : Nat) (S : Nat → Int32) : Nat → Int32 := if S 4 ≤ nI (popc (pbN (sKeeps S (nI q)) N)) then sLose (upd S (71 + q) (S 3)) q (pgr (sKeeps S (nI q)) N) else upd S (71 + q) (S 3)
def sDay (S : Nat → Int32) (P N : Nat) : Nat → Int32 := upd (pfor (sDrain N) 0 P (pfor sDue 0 N S)) 54 (pfor (sDrain N) 0 P (pfor sDue 0 N S) 54 + 1)
theorem sDue_L {r : Nat} {S S0 : Nat → Int32} (h : sameL S0 S) : sameL S0 (sDue r S) := by
  unfold sDue
  split
  · exact h.up (by omega)
  · exact h
theorem sLose_L {q r : Nat} {S S0 : Nat → Int32} (h : sameL S0 S) : sameL S0 (sLose S q r) := (((h.up (by omega)).up (by omega)).up (by omega)).up (by omega)
theorem sDrain_L {N q : Nat} {S S0 : Nat → Int32} (h : sameL S0 S) : sameL S0 (sDrain N q S) := by
  unfold sDrain
  split
  · exact sLose_L (h.up (by omega))
  · exact h.up (by omega)
theorem pfor_L {f : Nat → (Nat → Int32) → Nat → Int32} (hf : ∀ k S S0, sameL S0 S → sameL S0 (f k S)) : ∀ (c k : Nat) (S S0 : Nat → Int32), sameL S0 S → sameL S0 (pfor f k c S) := by
  intro c
  induction c with
  | zero => intro k S S0 h; exact h
  | succ c ih => intro k S S0 h; exact ih (k + 1) _ S0 (hf k S S0 h)
theorem sDay_L {S : Nat → Int32} {P N : Nat} : sameL S (sDay S P N) := (pfor_L (fun _ _ _ h => sDrain_L h) P 0 _ S (pfor_L (fun _ _ _ h => sDue_L h) N 0 S S sameL.rf)).up (by omega)
/-! the reference -/
theorem m_126 {m q : Nat} {k70 : Int32 → MM → Option MM} (hm : m < 128) (hq : q < 7) : ∀ (j n : Nat) (Y : MM), j < n → j < 7 → (∃ r, r < j + 1 ∧ m.testBit r = true) → fX13_day_126 (nI m) k70 n (nI q) (nI j) Y = k70 (nI (q + 1)) (sS Y (sLose (Y.1 2) q (pgr m.testBit (j + 1)))) := by
  intro j
  induction j with
  | zero =>
    intro n Y hn _ ⟨r, hr, ht⟩
    obtain ⟨n, rfl⟩ : ∃ z, n = z + 1 := ⟨n - 1, by omega⟩
    have hr : r = 0 := by omega
    subst hr
    rw [fX13_day_126, m_bitOf hm (by omega), ht]
    simp only [pb_bs, pb_b0, Bool.true_eq_false, if_false, c85, c78, c57, c99, c64, c106, nI_add, nI_1]
    rw [pb_gd (by omega) (by omega), pb_gd (by omega) (by omega), pb_gd (by omega) (by omega), pb_gd (by omega) (by omega), pb_gd (by omega) (by omega), pb_gd (by omega) (by omega), nI_clamp (by omega), nI_clamp (by omega), nI_clamp (by omega), nI_clamp (by omega), nI_clamp (by omega), nI_clamp (by omega)]
    simp (disch := omega) only [sS_0, sS_sS, sS_2, pk_un, sLose, pgr, ht, if_true]
  | succ j ih =>
    intro n Y hn hj ⟨r, hr, ht⟩
    obtain ⟨n, rfl⟩ : ∃ z, n = z + 1 := ⟨n - 1, by omega⟩
    rw [fX13_day_126, m_bitOf hm (by omega)]
    by_cases hb : m.testBit (j + 1) = true
    · simp only [pb_bs, pb_b0, hb, Bool.true_eq_false, if_false, c85, c78, c57, c99, c64, c106, nI_add, nI_1]
      rw [pb_gd (by omega) (by omega), pb_gd (by omega) (by omega), pb_gd (by omega) (by omega), pb_gd (by omega) (by omega), pb_gd (by omega) (by omega), pb_gd (by omega) (by omega), nI_clamp (by omega), nI_clamp (by omega), nI_clamp (by omega), nI_clamp (by omega), nI_clamp (by omega), nI_clamp (by omega), pgr, if_pos hb]
      simp (disch := omega) only [sS_0, sS_sS, sS_2, pk_un, sLose]
    · simp only [Bool.not_eq_true] at hb
      simp only [pb_bs, pb_b0, hb, if_true, pk_m1]
      have hne : r ≠ j + 1 := fun e => by rw [e, hb] at ht; cases ht
      rw [ih n Y (by omega) (by omega) ⟨r, by omega, ht⟩, show pgr m.testBit (j + 1 + 1) = pgr m.testBit (j + 1) from by rw [pgr, if_neg (by rw [hb]; decide)]]
theorem sKeeps_up {S : Nat → Int32} {q : Int32} {k : Nat} {v : Int32} (hk : k < 78 ∨ 91 < k) : ∀ r, r < 7 → sKeeps (upd S k v) q r = sKeeps S q r := by
  intro r hr
  rw [sKeeps, sKeeps, pk_un (by omega), pk_un (by omega)]
theorem pgr_congr {f g : Nat → Bool} : ∀ n, (∀ k, k < n → f k = g k) → pgr f n = pgr g n := by
  intro n
  induction n with
  | zero => intro _; rfl
  | succ n ih => intro h; rw [pgr, pgr, h n (by omega), ih (fun k hk => h k (by omega))]
theorem m_day {M : MM} {P N : Nat} (hW : wLd (M.1 2) P N) : fX13_day M = some (sS M (sDay (M.1 2) P N)) := by
  obtain ⟨e0, hP, e1, hN, -, ⟨w, -, -, ew⟩, ⟨jj, hj1, hj2, ej⟩, -, -⟩ := id hW
  have h1 := (loop_all (fun n k S => fX13_day_2 n (nI k) (sS M S)) N sDue (fun S => fX13_day_70 mx_fu 0 (sS M S)) (fun _ S => sameL (M.1 2) S) (M.1 2) (by omega) sameL.rf (fun n S hS => by
      show fX13_day_2 (n + 1) (nI N) (sS M S) = _
      rw [fX13_day_2, sS_2, hS 1 (by omega), e1, if_pos (nI_le (Nat.le_refl N) (by omega))]) (fun n k S hk hS => ⟨by
      show fX13_day_2 (n + 1) (nI k) (sS M S) = fX13_day_2 n (nI (k + 1)) (sS M (sDue k S))
      rw [fX13_day_2, sS_2, hS 1 (by omega), e1, if_neg (nI_ge hk (by omega))]
      simp only [c47, c33, c92, nI_add, nI_1]
      rw [pb_gd (by omega) (by omega), pb_gd (by omega) (by omega), nI_clamp (by omega), nI_clamp (by omega), m_has (by omega), sS_2, sDue]
      simp only [pb_bs, pb_b0, fX13_day_61]
      by_cases h : S (47 + k) = S 54
      · rw [if_pos h, if_pos h, pb_gd (by omega) (by omega), pb_gd (by omega) (by omega), nI_clamp (by omega), nI_1]
        simp only [sS_i]
        cases sHas S (S (33 + k)) k <;> rfl
      · rw [if_neg h, if_neg h], sDue_L hS⟩)).1
  have h2 := (loop_all (fun n k S => fX13_day_70 n (nI k) (sS M S)) P (sDrain N) (fun S => some (sS M (upd S 54 (S 54 + 1)))) (fun _ S => sameL (M.1 2) S) (pfor sDue 0 N (M.1 2)) (by omega) (pfor_L (fun _ _ _ h => sDue_L h) N 0 _ _ sameL.rf) (fun n S hS => by
      show fX13_day_70 (n + 1) (nI P) (sS M S) = _
      rw [fX13_day_70, sS_2, hS 0 (by omega), e0, if_pos (nI_le (Nat.le_refl P) (by omega)), sS_i]) (fun n k S hk hS => ⟨by
      show fX13_day_70 (n + 1) (nI k) (sS M S) = fX13_day_70 n (nI (k + 1)) (sS M (sDrain N k S))
      have hS1 : S 1 = nI N := by rw [hS 1 (by omega)]; exact e1
      rw [fX13_day_70, sS_2, hS 0 (by omega), e0, if_neg (nI_ge hk (by omega))]
      simp only [c71, nI_add, nI_1]
      rw [pb_gd (by omega) (by omega), nI_clamp (by omega), sS_i, m_keptBy hN (by rw [sS_2, pk_un (by omega)]; exact hS1), sS_2]
      obtain ⟨g1, g2, g3⟩ := pbN_spec (f := sKeeps S (nI k)) hN
      have hk1 : sKept (upd S (71 + k) (S 3)) N (nI k) = nI (pbN (sKeeps S (nI k)) N) := by
        rw [sKept, pbits_congr (fun r hr => sKeeps_up (Or.inl (by omega)) r (by omega)), g2]
      rw [hk1]
      simp only [pb_bs]
      rw [m_bits g1]
      simp only [pb_bs]
      rw [pk_un (by omega), pk_un (by omega), hS1, sDrain]
      by_cases hc : S 4 ≤ nI (popc (pbN (sKeeps S (nI k)) N))
      · rw [if_pos hc, if_pos hc]
        have hpop : 1 ≤ popc (pbN (sKeeps S (nI k)) N) := by
          have := bit_pop _ g1
          rw [hS 4 (by omega), ej, pb_le (by omega) (by omega)] at hc
          omega
        obtain ⟨r, hr, ht⟩ := bit_one _ g1 hpop
        have hrN : r < N := by
          rw [g3 r] at ht
          simp at ht
          exact ht.1
        obtain ⟨z, hz⟩ : ∃ z, N = z + 1 := ⟨N - 1, by omega⟩
        have e5 : nI N - (1 : Int32) = nI z := by rw [hz]; exact nI_pred z
        rw [e5, m_126 g1 (by omega) z mx_fu _ (by unfold mx_fu; omega) (by omega) ⟨r, by omega, ht⟩, sS_2, sS_sS, ← hz, pgr_congr (g := sKeeps S (nI k)) N (fun j hj => by rw [g3 j]; simp [hj])]
      · rw [if_neg hc, if_neg hc], sDrain_L hS⟩)).1
  rw [fX13_day]
  rw [sS_self] at h1
  exact (h1.trans h2).trans rfl
/-! the class -/
/-- the same but for the steps -/
def rStN (o : Nat) (X : MM) (S : Nat → Int32) (P N : Nat) : Prop :=
  X.1 o 9 = S 54 ∧ X.1 o 10 = S 55 ∧ X.1 o 11 = S 56 ∧
  (∀ p, p < P → X.1 (o + 1) p = S (57 + p) ∧ X.1 (o + 2) p = S (64 + p)) ∧
  (∀ r, r < N → X.1 (o + 5) r = S (85 + r) ∧ X.1 (o + 8) r = S (92 + r) ∧ (S (85 + r) ≠ 2 → X.1 (o + 4) r = S (78 + r)) ∧ (S (85 + r) = 2 → X.1 (o + 4) r = -1 ∧ X.1 (o + 6) r = S (99 + r) ∧ X.1 (o + 7) r = S (106 + r)))
theorem rSt.N {o : Nat} {X : MM} {S : Nat → Int32} {P N : Nat} (h : rSt o X S P N) : rStN o X S P N := ⟨h.1, h.2.1, h.2.2.1, fun p hp => ⟨(h.2.2.2.1 p hp).1, (h.2.2.2.1 p hp).2.1⟩, h.2.2.2.2⟩
/-- .. seen with the class's own steps -/
theorem rStN.with {o : Nat} {X : MM} {S : Nat → Int32} {P N : Nat} (hP : P ≤ 7) (hN : N ≤ 7) (h : rStN o X S P N) : rSt o X (fun i => if 71 ≤ i ∧ i < 78 then X.1 (o + 3) (i - 71) else S i) P N := by
  obtain ⟨g1, g2, g3, g4, g5⟩ := h
  refine ⟨g1, g2, g3, fun p hp => ?_, fun r hr => ?_⟩
  · obtain ⟨k1, k2⟩ := g4 p hp
    have e : ∀ i, i < 71 → (if 71 ≤ i ∧ i < 78 then X.1 (o + 3) (i - 71) else S i) = S i := fun i hi => if_neg (by omega)
    have e2 : (if 71 ≤ 71 + p ∧ 71 + p < 78 then X.1 (o + 3) (71 + p - 71) else S (71 + p)) = X.1 (o + 3) p := by rw [if_pos (by omega), show 71 + p - 71 = p by omega]
    simp only [e (57 + p) (by omega), e (64 + p) (by omega), e2]
    exact ⟨k1, k2, trivial⟩
  · have e : ∀ i, 78 ≤ i → (if 71 ≤ i ∧ i < 78 then X.1 (o + 3) (i - 71) else S i) = S i := fun i hi => if_neg (by omega)
    simp only [e (85 + r) (by omega), e (92 + r) (by omega), e (78 + r) (by omega), e (99 + r) (by omega), e (106 + r) (by omega)]
    exact g5 r hr
theorem x_rest {o : Nat} {X : MM} {S : Nat → Int32} {P N : Nat} (ho : 29 ≤ o) (hP : P ≤ 7) (h0 : X.1 9 0 = nI P) (hw : X.1 9 12 = S 3) (hR : rStN o X S P N) (hS : ∀ p, p < P → S (71 + p) = S 3) : ∃ X', fX9_rest o X = some X' ∧ xFr o X X' ∧ X'.1 o 12 = X.1 o 12 ∧ rSt o X' S P N := by
  obtain ⟨X', h1, h2, h3, h4, h5⟩ := loop_rel (fun n k X => fX9_rest_2 o n (nI k) X) P (fun k Y => xFr o X Y ∧ Y.1 o 12 = X.1 o 12 ∧ rStN o Y S P N ∧ ∀ p, p < k → Y.1 (o + 3) p = S (71 + p)) some (fun n Y ⟨hf, _, _, _⟩ => by
      show fX9_rest_2 o (n + 1) (nI P) Y = some Y
      rw [fX9_rest_2, hf.1 9 (by omega), h0, if_pos (nI_le (Nat.le_refl P) (by omega))]) (fun n k Y hk ⟨hf, hd, hN, hq⟩ => ⟨mx_si Y (o + 3) k (S 3), by
      show fX9_rest_2 o (n + 1) (nI k) Y = fX9_rest_2 o n (nI (k + 1)) _
      rw [fX9_rest_2, hf.1 9 (by omega), h0, if_neg (nI_ge hk (by omega)), pb_gd (by omega) (by omega), nI_clamp (by omega), nI_1, hw], hf.si (by omega), by simp (disch := omega) only [si_nk, si_nj]; exact hd, by
      obtain ⟨g1, g2, g3, g4, g5⟩ := hN
      refine ⟨?_, ?_, ?_, fun p hp => ?_, fun r hr => ?_⟩
      · simp (disch := omega) only [si_nk]; exact g1
      · simp (disch := omega) only [si_nk]; exact g2
      · simp (disch := omega) only [si_nk]; exact g3
      · simp (disch := omega) only [si_nk]; exact g4 p hp
      · simp (disch := omega) only [si_nk]; exact g5 r hr, fun p hp => by
      by_cases hpk : p = k
      · subst hpk
        rw [si_eq, hS p hk]
      · rw [si_nj hpk]
        exact hq p (by omega)⟩) P 0 mx_fu X (by omega) (by unfold mx_fu; omega) ⟨xFr.rf, rfl, hR, fun p hp => by omega⟩
  exact ⟨X', h1, h2, h3, h4.1, h4.2.1, h4.2.2.1, fun p hp => ⟨(h4.2.2.2.1 p hp).1, (h4.2.2.2.1 p hp).2, h5 p hp⟩, h4.2.2.2.2⟩
theorem x_lose {o q m : Nat} {P N : Nat} {X : MM} {S : Nat → Int32} (hm : m < 128) (hq : q < P) (hP : P ≤ 7) (hN : N ≤ 7) (hR : rStN o X S P N) : ∀ (j n : Nat), j < n → j < N → (∃ r, r < j + 1 ∧ m.testBit r = true) → ∃ X', fX9_loseGreatest_10 o (nI q) (nI m) n (nI j) X = some X' ∧ xFr o X X' ∧ X'.1 o 12 = X.1 o 12 ∧ rStN o X' (sLose S q (pgr m.testBit (j + 1))) P N := by
  have key : ∀ r, r < N → rStN o (mx_si (mx_si (mx_si (mx_si X (o + 5) r 2) (o + 4) r (-1)) (o + 6) r (S (57 + q))) (o + 7) r (S (64 + q))) (sLose S q r) P N := by
    intro r hr
    obtain ⟨g1, g2, g3, g4, g5⟩ := hR
    refine ⟨?_, ?_, ?_, fun p hp => ?_, fun j hj => ?_⟩
    · simp (disch := omega) only [si_nk, sLose, pk_un]; exact g1
    · simp (disch := omega) only [si_nk, sLose, pk_un]; exact g2
    · simp (disch := omega) only [si_nk, sLose, pk_un]; exact g3
    · simp (disch := omega) only [si_nk, sLose, pk_un]; exact g4 p hp
    · obtain ⟨i1, i2, i3, i4⟩ := g5 j hj
      by_cases hjr : j = r
      · subst hjr
        simp (disch := omega) only [si_eq, si_nk, si_nj, sLose, pk_un, pk_us]
        exact ⟨trivial, i2, fun h => absurd rfl h, fun _ => ⟨trivial, trivial, trivial⟩⟩
      · simp (disch := omega) only [si_nk, si_nj, sLose, pk_un]
        exact ⟨i1, i2, i3, i4⟩
  have hx : X.1 (o + 1) q = S (57 + q) := (hR.2.2.2.1 q hq).1
  have hy : X.1 (o + 2) q = S (64 + q) := (hR.2.2.2.1 q hq).2
  have done : ∀ (j n : Nat), j < N → m.testBit j = true → ∃ X', fX9_loseGreatest_10 o (nI q) (nI m) (n + 1) (nI j) X = some X' ∧ xFr o X X' ∧ X'.1 o 12 = X.1 o 12 ∧ rStN o X' (sLose S q j) P N := by
    intro j n hj hb
    have ht := bit_tst m hm j (by omega)
    rw [hb] at ht
    have ht := of_decide_eq_true ht
    rw [fX9_loseGreatest_10, if_neg (nI_pos (by omega)), if_pos ht, pb_gd (by omega) (by omega), pb_gd (by omega) (by omega), pb_gd (by omega) (by omega), pb_gd (by omega) (by omega), pb_gd (by omega) (by omega), pb_gd (by omega) (by omega), nI_clamp (by omega), nI_clamp (by omega)]
    simp (disch := omega) only [si_nk]
    rw [hx, hy]
    refine ⟨_, rfl, (((xFr.rf.si (by omega)).si (by omega)).si (by omega)).si (by omega), ?_, key j hj⟩
    simp (disch := omega) only [si_nk]
  intro j
  induction j with
  | zero =>
    intro n hn hj ⟨r, hr, ht⟩
    obtain ⟨n, rfl⟩ : ∃ z, n = z + 1 := ⟨n - 1, by omega⟩
    have hr : r = 0 := by omega
    subst hr
    rw [pgr, if_pos ht]
    exact done 0 n hj ht
  | succ j ih =>
    intro n hn hj ⟨r, hr, ht⟩
    obtain ⟨n, rfl⟩ : ∃ z, n = z + 1 := ⟨n - 1, by omega⟩
    by_cases hb : m.testBit (j + 1) = true
    · rw [pgr, if_pos hb]
      exact done (j + 1) n hj hb
    · have hb' := bit_tst m hm (j + 1) (by omega)
      simp only [Bool.not_eq_true] at hb
      rw [hb] at hb'
      have hb' := of_decide_eq_false hb'
      have hne : r ≠ j + 1 := fun e => by rw [e, hb] at ht; cases ht
      rw [fX9_loseGreatest_10, if_neg (nI_pos (by omega)), if_neg hb', pk_m1, pgr, if_neg (by rw [hb]; decide)]
      exact ih n (by omega) (by omega) ⟨r, by omega, ht⟩
theorem x_withOwner {o r : Nat} {X : MM} {b : Bool} (hr : r < 7) (h : (X.1 (o + 4) r = X.1 16 r) = (b = true)) : fX9_isWithOwner o (nI r) X = some b := by
  rw [fX9_isWithOwner, pb_gd hr (by omega), pb_gd hr (by omega), nI_clamp (by omega)]
  cases b with
  | true => rw [if_pos (h.mpr rfl)]
  | false => rw [if_neg (fun e => absurd (h.mp e) (by decide))]
theorem x_day1 {o : Nat} {P N : Nat} {X : MM} {S : Nat → Int32} (ho : 29 ≤ o) (hW : wLd S P N) (hL : rLd X S P N) (hR : rSt o X S P N) : ∃ X', fX9_passDay_2 o mx_fu (nI 0) X = fX9_passDay_56 o mx_fu 0 X' ∧ xFr o X X' ∧ X'.1 o 12 = X.1 o 12 ∧ rSt o X' (pfor sDue 0 N S) P N := by
  obtain ⟨e0, hP, e1, hN, -, ⟨w, -, -, ew⟩, ⟨jj, hj1, hj2, ej⟩, -, hown⟩ := id hW
  have x0 : X.1 9 0 = nI P := by rw [hL.1, e0]
  have x1 : X.1 9 1 = nI N := by rw [hL.2.1, e1]
  exact loop_rel (fun n k X => fX9_passDay_2 o n (nI k) X) N (fun k Y => xFr o X Y ∧ Y.1 o 12 = X.1 o 12 ∧ rSt o Y (pfor sDue 0 k S) P N) (fun Y => fX9_passDay_56 o mx_fu 0 Y) (fun n Y ⟨hf, _, _⟩ => by
      show fX9_passDay_2 o (n + 1) (nI N) Y = _
      rw [fX9_passDay_2, hf.1 9 (by omega), x1, if_pos (nI_le (Nat.le_refl N) (by omega))]) (fun n k Y hk ⟨hf, hd, hY⟩ => by
      show ∃ Y', fX9_passDay_2 o (n + 1) (nI k) Y = fX9_passDay_2 o n (nI (k + 1)) Y' ∧ _
      have hsl : sameL S (pfor sDue 0 k S) := pfor_L (fun _ _ _ h => sDue_L h) k 0 S S sameL.rf
      obtain ⟨g1, g2, g3, g4, g5⟩ := id hY
      obtain ⟨i1, i2, i3, i4⟩ := g5 k hk
      obtain ⟨-, ⟨a, ha, ea⟩, -, -⟩ := hown k hk
      have d1 : Y.1 18 k = pfor sDue 0 k S (47 + k) := by rw [hf.1 18 (by omega), (hL.2.2.2.2.2.2 k hk).2.2.2, hsl (47 + k) (by omega)]
      have d2 : Y.1 16 k = pfor sDue 0 k S (33 + k) := by rw [hf.1 16 (by omega), (hL.2.2.2.2.2.2 k hk).2.1, hsl (33 + k) (by omega)]
      have hh : (Y.1 (o + 4) k = Y.1 16 k) = (sHas (pfor sDue 0 k S) (pfor sDue 0 k S (33 + k)) k = true) := by
        rw [d2, sHas]
        by_cases h2 : pfor sDue 0 k S (85 + k) = 2
        · rw [(i4 h2).1, hsl (33 + k) (by omega), ea]
          simp only [h2, decide_true, Bool.not_true, Bool.false_and, Bool.false_eq_true, eq_iff_iff, iff_false]
          intro h9
          exact absurd (show nI a < 0 by rw [← h9]; decide) (nI_pos (by omega))
        · rw [i3 h2]
          simp [h2]
      rw [fX9_passDay_2, hf.1 9 (by omega), x1, if_neg (nI_ge hk (by omega)), pb_gd (by omega) (by omega), nI_clamp (by omega), d1, g1, x_withOwner (show k < 7 by omega) hh, pfor_succ, Nat.zero_add]
      simp only [pb_bs, fX9_passDay_47]
      rw [pb_gd (by omega) (by omega), pb_gd (by omega) (by omega), nI_clamp (by omega), nI_1]
      by_cases hdue : pfor sDue 0 k S (47 + k) = pfor sDue 0 k S 54
      · rw [if_pos hdue]
        have upR : ∀ v, rSt o (mx_si Y (o + 8) k v) (upd (pfor sDue 0 k S) (92 + k) v) P N := by
          intro v
          refine ⟨?_, ?_, ?_, fun p hp => ?_, fun j hj => ?_⟩
          · simp (disch := omega) only [si_nk, pk_un]; exact g1
          · simp (disch := omega) only [si_nk, pk_un]; exact g2
          · simp (disch := omega) only [si_nk, pk_un]; exact g3
          · simp (disch := omega) only [si_nk, pk_un]; exact g4 p hp
          · obtain ⟨i1, i2, i3, i4⟩ := g5 j hj
            by_cases hjr : j = k
            · subst hjr
              simp (disch := omega) only [si_eq, si_nk, pk_un, pk_us]
              exact ⟨i1, trivial, i3, i4⟩
            · simp (disch := omega) only [si_nk, si_nj, pk_un]
              exact ⟨i1, i2, i3, i4⟩
        by_cases hb : sHas (pfor sDue 0 k S) (pfor sDue 0 k S (33 + k)) k = true
        · rw [if_neg (show ¬ mx_b (sHas (pfor sDue 0 k S) (pfor sDue 0 k S (33 + k)) k) = 0 by rw [hb]; decide)]
          refine ⟨_, rfl, hf.si (by omega), by simp (disch := omega) only [si_nk]; exact hd, ?_⟩
          rw [sDue, if_pos hdue, if_pos hb]
          exact upR 1
        · rw [if_pos (show mx_b (sHas (pfor sDue 0 k S) (pfor sDue 0 k S (33 + k)) k) = 0 by rw [pb_b0]; simpa using hb)]
          refine ⟨_, rfl, hf.si (by omega), by simp (disch := omega) only [si_nk]; exact hd, ?_⟩
          rw [sDue, if_pos hdue, if_neg hb]
          exact upR 2
      · rw [if_neg hdue]
        refine ⟨Y, rfl, hf, hd, ?_⟩
        rw [sDue, if_neg hdue]
        exact hY) N 0 mx_fu X (by omega) (by unfold mx_fu; omega) ⟨xFr.rf, rfl, hR⟩
theorem x_day2 {o : Nat} {P N : Nat} {X X1 : MM} {S S1 : Nat → Int32} (ho : 29 ≤ o) (hW : wLd S P N) (hL : rLd X S P N) (hs1 : sameL S S1) (a2 : xFr o X X1) (a3 : X1.1 o 12 = X.1 o 12) (a4 : rSt o X1 S1 P N) : ∃ X', fX9_passDay_56 o mx_fu (nI 0) X1 = ((fX9_rest o (mx_si X' o 9 ((X'.1 o 9) + (1 : Int32)))).bind fun q => some q) ∧ xFr o X X' ∧ X'.1 o 12 = X.1 o 12 ∧ rStN o X' (pfor (sDrain N) 0 P S1) P N := by
  obtain ⟨e0, hP, e1, hN, -, ⟨w, -, -, ew⟩, ⟨jj, hj1, hj2, ej⟩, -, hown⟩ := id hW
  have x0 : X.1 9 0 = nI P := by rw [hL.1, e0]
  have x1 : X.1 9 1 = nI N := by rw [hL.2.1, e1]
  exact loop_rel (fun n k X => fX9_passDay_56 o n (nI k) X) P (fun k Y => xFr o X Y ∧ Y.1 o 12 = X.1 o 12 ∧ rStN o Y (pfor (sDrain N) 0 k S1) P N) (fun Y => (fX9_rest o (mx_si Y o 9 ((Y.1 o 9) + (1 : Int32)))).bind fun q => some q) (fun n Y ⟨hf, _, _⟩ => by
      show fX9_passDay_56 o (n + 1) (nI P) Y = _
      rw [fX9_passDay_56, hf.1 9 (by omega), x0, if_pos (nI_le (Nat.le_refl P) (by omega))]) (fun n k Y hk ⟨hf, hd, hY⟩ => by
      show ∃ Y', fX9_passDay_56 o (n + 1) (nI k) Y = fX9_passDay_56 o n (nI (k + 1)) Y' ∧ _
      have hsl : sameL S (pfor (sDrain N) 0 k S1) := pfor_L (fun _ _ _ h => sDrain_L h) k 0 S1 S hs1
      rw [fX9_passDay_56, hf.1 9 (by omega), x0, if_neg (nI_ge hk (by omega)), x_keptBy (by rw [hf.1 9 (by omega)]; exact x1) (hY.with hP hN) hN]
      simp only [pb_bs]
      rw [pfor_succ, Nat.zero_add]
      generalize hSk : pfor (sDrain N) 0 k S1 = Sk at hY hsl ⊢
      obtain ⟨p1, p2, p3⟩ := pbN_spec (f := sKeeps Sk (nI k)) hN
      have hk1 : sKept (fun i => if 71 ≤ i ∧ i < 78 then Y.1 (o + 3) (i - 71) else Sk i) N (nI k) = nI (pbN (sKeeps Sk (nI k)) N) := by
        rw [← p2, sKept]
        refine pbits_congr (fun r hr => ?_)
        rw [sKeeps, sKeeps, if_neg (by omega), if_neg (by omega)]
      rw [hk1, x_bitCount p1]
      simp only [pb_bs]
      have ejk : Sk 4 = nI jj := by rw [hsl 4 (by omega)]; exact ej
      have x13 : X.1 9 13 = nI jj := by rw [hL.2.2.2.2.1]; exact ej
      have hpop := bit_pop _ p1
      have upN : rStN o Y (upd Sk (71 + k) (Sk 3)) P N := by
        obtain ⟨g1, g2, g3, g4, g5⟩ := hY
        refine ⟨?_, ?_, ?_, fun p hp => ?_, fun j hj => ?_⟩
        · simp (disch := omega) only [pk_un]; exact g1
        · simp (disch := omega) only [pk_un]; exact g2
        · simp (disch := omega) only [pk_un]; exact g3
        · simp (disch := omega) only [pk_un]; exact g4 p hp
        · simp (disch := omega) only [pk_un]; exact g5 j hj
      rw [x13, sDrain, ejk]
      simp only [pb_lt (show popc (pbN (sKeeps Sk (nI k)) N) < 2 ^ 31 by omega) (show jj < 2 ^ 31 by omega), pb_le (show jj < 2 ^ 31 by omega) (show popc (pbN (sKeeps Sk (nI k)) N) < 2 ^ 31 by omega)]
      by_cases hc : jj ≤ popc (pbN (sKeeps Sk (nI k)) N)
      · rw [if_neg (by omega), if_pos hc]
        obtain ⟨r, hr, ht⟩ := bit_one _ p1 (by omega)
        have hrN : r < N := by
          rw [p3 r] at ht
          simp at ht
          exact ht.1
        obtain ⟨z, hz⟩ : ∃ z, N = z + 1 := ⟨N - 1, by omega⟩
        have e5 : nI N - (1 : Int32) = nI z := by rw [hz]; exact nI_pred z
        obtain ⟨Y', c1, c2, c3, c4⟩ := x_lose (o := o) p1 hk hP hN upN z mx_fu (by unfold mx_fu; omega) (by omega) ⟨r, by omega, ht⟩
        rw [fX9_loseGreatest, hf.1 9 (by omega), x1, e5, c1]
        simp only [pb_bs, nI_1]
        refine ⟨Y', rfl, hf.tr c2, c3.trans hd, ?_⟩
        rw [← hz, pgr_congr (g := sKeeps Sk (nI k)) N (fun j hj => by rw [p3 j]; simp [hj])] at c4
        exact c4
      · rw [if_pos (by omega), if_neg hc, nI_1]
        exact ⟨Y, rfl, hf, hd, upN⟩) P 0 mx_fu X1 (by omega) (by unfold mx_fu; omega) ⟨a2, a3, a4.N⟩
theorem x_passDay {o : Nat} {P N : Nat} {X : MM} {S : Nat → Int32} (ho : 29 ≤ o) (hW : wLd S P N) (hL : rLd X S P N) (hR : rSt o X S P N) : ∃ X', fX9_passDay o X = some X' ∧ xFr o X X' ∧ X'.1 o 12 = X.1 o 12 ∧ rSt o X' (sDay S P N) P N := by
  obtain ⟨e0, hP, e1, hN, -, ⟨w, -, -, ew⟩, ⟨jj, hj1, hj2, ej⟩, -, hown⟩ := id hW
  have x0 : X.1 9 0 = nI P := by rw [hL.1, e0]
  have x1 : X.1 9 1 = nI N := by rw [hL.2.1, e1]
  obtain ⟨X1, a1, a2, a3, a4⟩ := x_day1 ho hW hL hR
  have hs1 : sameL S (pfor sDue 0 N S) := pfor_L (fun _ _ _ h => sDue_L h) N 0 S S sameL.rf
  generalize hS1 : pfor sDue 0 N S = S1 at a4 hs1
  obtain ⟨X2, b1, b2, b3, b4⟩ := x_day2 ho hW hL hs1 a2 a3 a4
  have hs2 : sameL S (pfor (sDrain N) 0 P S1) := pfor_L (fun _ _ _ h => sDrain_L h) P 0 S1 S hs1
  have hst : ∀ c, c ≤ P → ∀ p, p < c → pfor (sDrain N) 0 c S1 (71 + p) = S1 3 := by
    intro c
    induction c with
    | zero => intro _ p hp; omega
    | succ c ih =>
      intro hc p hp
      have h3 : pfor (sDrain N) 0 c S1 3 = S1 3 := pfor_L (f := sDrain N) (fun _ _ _ h => sDrain_L h) c 0 S1 S1 sameL.rf 3 (by omega)
      rw [pfor_succ, Nat.zero_add, sDrain]
      by_cases hpc : p = c
      · subst hpc
        split
        · simp (disch := omega) only [sLose, pk_un, pk_us]
          exact h3
        · rw [pk_us, h3]
      · split
        · simp (disch := omega) only [sLose, pk_un]
          exact ih (by omega) p (by omega)
        · rw [pk_un (by omega)]
          exact ih (by omega) p (by omega)
  have hst := hst P (Nat.le_refl P)
  generalize hS2 : pfor (sDrain N) 0 P S1 = S2 at b4 hs2 hst
  have hN2 : rStN o (mx_si X2 o 9 ((X2.1 o 9) + (1 : Int32))) (upd S2 54 (S2 54 + 1)) P N := by
    obtain ⟨g1, g2, g3, g4, g5⟩ := b4
    refine ⟨?_, ?_, ?_, fun p hp => ?_, fun j hj => ?_⟩
    · rw [si_eq, pk_us, g1]
    · simp (disch := omega) only [si_nj, pk_un]; exact g2
    · simp (disch := omega) only [si_nj, pk_un]; exact g3
    · simp (disch := omega) only [si_nk, pk_un]; exact g4 p hp
    · simp (disch := omega) only [si_nk, pk_un]; exact g5 j hj
  obtain ⟨X3, c1, c2, c3, c4⟩ := x_rest (o := o) (S := upd S2 54 (S2 54 + 1)) ho hP (by rw [si_nk (by omega), b2.1 9 (by omega)]; exact x0) (by rw [si_nk (by omega), b2.1 9 (by omega), hL.2.2.2.1, pk_un (by omega), hs2 3 (by omega)]) hN2 (fun p hp => by rw [pk_un (by omega), pk_un (by omega), hst p hp, hs2 3 (by omega), hs1 3 (by omega)])
  refine ⟨X3, ?_, (b2.si (by omega)).tr c2, ?_, ?_⟩
  · rw [fX9_passDay]
    refine a1.trans (b1.trans ?_)
    rw [c1]
    rfl
  · rw [c3, si_nj (by omega)]
    exact b3
  · rw [sDay, hS1, hS2]
    exact c4
