/-! copies of states; what can be undone -/
theorem cpi_eq {M : MM} {a b n j : Nat} (h : j < n) : (mx_cpi M a b n).1 b j = M.1 a j := by simp [mx_cpi, h]
theorem cpi_nk {M : MM} {a b n k j : Nat} (h : k ≠ b) : (mx_cpi M a b n).1 k j = M.1 k j := by simp [mx_cpi, h]
theorem cpi_row {M : MM} {a b n k : Nat} (h : k ≠ b) : (mx_cpi M a b n).1 k = M.1 k := by funext j; exact cpi_nk h
theorem xFr.cp {o a b n : Nat} {X X' : MM} (h : xFr o X X') (hk : o ≤ b ∧ b ≤ o + 8) : xFr o X (mx_cpi X' a b n) := ⟨fun k hk' => by rw [cpi_row (by omega)]; exact h.1 k hk', h.2⟩
theorem rSt_congr {o : Nat} {X : MM} {S S' : Nat → Int32} {P N : Nat} (hP : P ≤ 7) (hN : N ≤ 7) (h : ∀ i, 54 ≤ i → i < 113 → S' i = S i) (hR : rSt o X S P N) : rSt o X S' P N := by
  obtain ⟨g1, g2, g3, g4, g5⟩ := hR
  refine ⟨by rw [h 54 (by omega) (by omega)]; exact g1, by rw [h 55 (by omega) (by omega)]; exact g2, by rw [h 56 (by omega) (by omega)]; exact g3, fun p hp => ?_, fun r hr => ?_⟩
  · rw [h (57 + p) (by omega) (by omega), h (64 + p) (by omega) (by omega), h (71 + p) (by omega) (by omega)]
    exact g4 p hp
  · rw [h (85 + r) (by omega) (by omega), h (92 + r) (by omega) (by omega), h (78 + r) (by omega) (by omega), h (99 + r) (by omega) (by omega), h (106 + r) (by omega) (by omega)]
    exact g5 r hr
theorem rSt_fr {o : Nat} {X X' : MM} {S : Nat → Int32} {P N : Nat} (h : ∀ k, o ≤ k → k ≤ o + 8 → X'.1 k = X.1 k) (hR : rSt o X S P N) : rSt o X' S P N := by
  obtain ⟨g1, g2, g3, g4, g5⟩ := hR
  refine ⟨by rw [h o (by omega) (by omega)]; exact g1, by rw [h o (by omega) (by omega)]; exact g2, by rw [h o (by omega) (by omega)]; exact g3, fun p hp => ?_, fun r hr => ?_⟩
  · rw [h (o + 1) (by omega) (by omega), h (o + 2) (by omega) (by omega), h (o + 3) (by omega) (by omega)]
    exact g4 p hp
  · rw [h (o + 5) (by omega) (by omega), h (o + 8) (by omega) (by omega), h (o + 4) (by omega) (by omega), h (o + 6) (by omega) (by omega), h (o + 7) (by omega) (by omega)]
    exact g5 r hr
set_option maxRecDepth 4000 in
theorem x_copySt {o o1 : Nat} {X : MM} (hd : o1 + 8 < o ∨ o + 8 < o1) : ∃ X', fX9_copyFrom o o1 X = some X' ∧ xFr o X X' ∧ ∀ (S : Nat → Int32) (P N : Nat), P ≤ 7 → N ≤ 7 → rSt o1 X S P N → rSt o X' S P N := by
  refine ⟨_, rfl, ?_, fun S P N hP hN hR => ?_⟩
  · exact ((((((((((xFr.rf.cp (by omega)).cp (by omega)).cp (by omega)).cp (by omega)).cp (by omega)).cp (by omega)).cp (by omega)).cp (by omega)).si (by omega)).si (by omega)).si (by omega)
  · obtain ⟨g1, g2, g3, g4, g5⟩ := hR
    refine ⟨?_, ?_, ?_, fun p hp => ?_, fun r hr => ?_⟩
    · simp (disch := omega) only [si_eq, si_nj, si_nk, cpi_nk]
      exact g1
    · simp (disch := omega) only [si_eq, si_nj, si_nk, cpi_nk]
      exact g2
    · simp (disch := omega) only [si_eq, si_nj, si_nk, cpi_nk]
      exact g3
    · simp (disch := omega) only [si_nk, cpi_nk, cpi_eq]
      exact g4 p hp
    · simp (disch := omega) only [si_nk, cpi_nk, cpi_eq]
      exact g5 r hr
/-! a row copied place by place -/
def cpR (Y : MM) (c : Nat) (f : Nat → Int32) (b n : Nat) : MM := (fun a j => if a = c ∧ b ≤ j ∧ j < b + n then f (j - b) else Y.1 a j, Y.2)
theorem cpR_0 {Y : MM} {c b : Nat} {f : Nat → Int32} : cpR Y c f b 0 = Y := by
  refine Prod.ext ?_ rfl
  funext a j
  show (if _ then _ else _) = _
  rw [if_neg (by omega)]
theorem cpR_s {Y : MM} {c b k : Nat} {f : Nat → Int32} : mx_si (cpR Y c f b k) c (b + k) (f k) = cpR Y c f b (k + 1) := by
  refine Prod.ext ?_ rfl
  funext a j
  show (if _ then _ else (if _ then _ else _)) = (if _ then _ else _)
  by_cases h1 : a = c ∧ j = b + k
  · rw [if_pos h1, if_pos (by omega), h1.2, show b + k - b = k by omega]
  · rw [if_neg h1]
    by_cases h2 : a = c ∧ b ≤ j ∧ j < b + k
    · rw [if_pos h2, if_pos (by omega)]
    · rw [if_neg h2, if_neg (by omega)]
theorem cpR_n {Y : MM} {c b n a : Nat} {f : Nat → Int32} (h : a ≠ c) : (cpR Y c f b n).1 a = Y.1 a := by funext j; simp [cpR, h]
theorem cpR_in {Y : MM} {c b n j : Nat} {f : Nat → Int32} (h : j < n) : (cpR Y c f b n).1 c (b + j) = f j := by
  show (if _ then _ else _) = _
  rw [if_pos (by omega), show b + j - b = j by omega]
theorem cpR_out {Y : MM} {c b n j : Nat} {f : Nat → Int32} (h : j < b ∨ b + n ≤ j) : (cpR Y c f b n).1 c j = Y.1 c j := by
  show (if _ then _ else _) = _
  rw [if_neg (by omega)]
theorem nI_mul (a b : Nat) : nI a * nI b = nI (a * b) := pk_mul a b
/-! the reference keeps a state -/
theorem m_keep47 {Y : MM} {U : Nat} (hU : U < 8) (h : Y.1 0 23 = nI U) : fX13_keep_47 mx_fu (nI 0) Y = some (mx_si (cpR Y 7 (fun i => Y.1 2 (54 + i)) (59 * U) 59) 0 23 (nI (U + 1))) := by
  have key := (loop_all (fun n k (_ : Unit) => fX13_keep_47 n (nI k) (cpR Y 7 (fun i => Y.1 2 (54 + i)) (59 * U) k)) 59 (fun _ u => u) (fun _ => some (mx_si (cpR Y 7 (fun i => Y.1 2 (54 + i)) (59 * U) 59) 0 23 (nI (U + 1)))) (fun _ _ => True) () (by omega) trivial (fun n _ _ => by
      show fX13_keep_47 (n + 1) (nI 59) _ = _
      rw [fX13_keep_47, c59, if_pos (nI_le (by omega) (by omega)), cpR_n (by omega), h, nI_1]) (fun n k _ hk _ => ⟨by
      show fX13_keep_47 (n + 1) (nI k) _ = fX13_keep_47 n (nI (k + 1)) _
      rw [fX13_keep_47, c59, if_neg (nI_ge hk (by omega)), cpR_n (by omega), cpR_n (by omega), h, c54]
      simp only [nI_add, nI_mul, nI_1]
      rw [pb_gd (by omega) (by omega), pb_gd (by omega) (by omega), nI_clamp (by omega), nI_clamp (by omega)]
      exact congrArg _ cpR_s, trivial⟩)).1
  have key : fX13_keep_47 mx_fu (nI 0) (cpR Y 7 (fun i => Y.1 2 (54 + i)) (59 * U) 0) = _ := key
  rw [cpR_0] at key
  exact key
theorem m_keep11 {Y : MM} {k47 : Int32 → MM → Option MM} : fX13_keep_11 k47 mx_fu (nI 0) Y = k47 0 (mx_si (cpR Y 7 (fun i => Y.1 7 (i + 59)) 0 413) 0 23 7) := by
  have key := (loop_all (fun n k (_ : Unit) => fX13_keep_11 k47 n (nI k) (cpR Y 7 (fun i => Y.1 7 (i + 59)) 0 k)) 413 (fun _ u => u) (fun _ => k47 0 (mx_si (cpR Y 7 (fun i => Y.1 7 (i + 59)) 0 413) 0 23 7)) (fun _ _ => True) () (by omega) trivial (fun n _ _ => by
      show fX13_keep_11 k47 (n + 1) (nI 413) _ = _
      have h : (413 : Int32) ≤ nI 413 := by decide
      rw [fX13_keep_11, if_pos h]) (fun n k _ hk _ => ⟨by
      show fX13_keep_11 k47 (n + 1) (nI k) _ = fX13_keep_11 k47 n (nI (k + 1)) _
      have h : ¬ (413 : Int32) ≤ nI k := nI_ge (b := 413) hk (by omega)
      rw [fX13_keep_11, if_neg h, c59]
      simp only [nI_add, nI_1]
      rw [pb_gd (by omega) (by omega), pb_gd (by omega) (by omega), nI_clamp (by omega), nI_clamp (by omega), cpR_out (by omega)]
      have := cpR_s (Y := Y) (c := 7) (b := 0) (k := k) (f := fun i => Y.1 7 (i + 59))
      rw [Nat.zero_add] at this
      exact congrArg _ this, trivial⟩)).1
  have key : fX13_keep_11 k47 mx_fu (nI 0) (cpR Y 7 (fun i => Y.1 7 (i + 59)) 0 0) = _ := key
  rw [cpR_0] at key
  exact key
/-- what keep does -/
def mKept (Y Y' : MM) (U : Nat) (S : Nat → Int32) : Prop :=
  (∀ a, a ≠ 7 → a ≠ 0 → Y'.1 a = Y.1 a) ∧ (∀ b, b ≠ 23 → Y'.1 0 b = Y.1 0 b) ∧ Y'.2 = Y.2 ∧
  (U < 8 → Y'.1 0 23 = nI (U + 1) ∧ (∀ i j, i < U → j < 59 → Y'.1 7 (59 * i + j) = Y.1 7 (59 * i + j)) ∧ ∀ j, j < 59 → Y'.1 7 (59 * U + j) = S (54 + j)) ∧
  (U = 8 → Y'.1 0 23 = nI 8 ∧ (∀ i j, i < 7 → j < 59 → Y'.1 7 (59 * i + j) = Y.1 7 (59 * (i + 1) + j)) ∧ ∀ j, j < 59 → Y'.1 7 (59 * 7 + j) = S (54 + j))
theorem m_keep {Y : MM} {U : Nat} (hU : U ≤ 8) (h : Y.1 0 23 = nI U) : ∃ Y', fX13_keep Y = some Y' ∧ mKept Y Y' U (Y.1 2) := by
  rw [fX13_keep, h, c8]
  simp only [propext (nI_eq (show U < 2 ^ 31 by omega) (show 8 < 2 ^ 31 by omega))]
  by_cases h8 : U = 8
  · subst h8
    rw [if_pos rfl, c0, m_keep11]
    have hY : (mx_si (cpR Y 7 (fun i => Y.1 7 (i + 59)) 0 413) 0 23 7).1 0 23 = nI 7 := by rw [si_eq]; rfl
    refine ⟨_, m_keep47 (U := 7) (by omega) hY, fun a h7 h0 => ?_, fun b hb => ?_, rfl, fun h => absurd h (by omega), fun _ => ⟨si_eq, fun i j hi hj => ?_, fun j hj => ?_⟩⟩
    · rw [si_row h0, cpR_n h7, si_row h0, cpR_n h7]
    · rw [si_nj hb, cpR_n (by omega), si_nj hb, cpR_n (by omega)]
    · rw [si_nk (by omega), cpR_out (by omega), si_nk (by omega)]
      have := cpR_in (Y := Y) (c := 7) (b := 0) (n := 413) (j := 59 * i + j) (f := fun i => Y.1 7 (i + 59)) (by omega)
      rw [Nat.zero_add] at this
      rw [this, show 59 * i + j + 59 = 59 * (i + 1) + j by omega]
    · rw [si_nk (by omega), cpR_in hj, si_row (by omega), cpR_n (by omega)]
  · rw [if_neg h8, c0, m_keep47 (U := U) (by omega) h]
    refine ⟨_, rfl, fun a h7 h0 => ?_, fun b hb => ?_, rfl, fun _ => ⟨si_eq, fun i j hi hj => ?_, fun j hj => ?_⟩, fun h => absurd h h8⟩
    · rw [si_row h0, cpR_n h7]
    · rw [si_nj hb, cpR_n (by omega)]
    · have : 59 * i + j < 59 * U := by
        have := Nat.mul_le_mul_left 59 (show i + 1 ≤ U by omega)
        omega
      rw [si_nk (by omega), cpR_out (by omega)]
    · rw [si_nk (by omega), cpR_in hj]
/-! the class's past -/
def uSl (Y : MM) (i : Nat) : Nat → Int32 := fun j => Y.1 7 (59 * i + (j - 54))
def rPast (X Y : MM) (P N : Nat) : Prop :=
  ∃ (U : Nat) (π : Nat → Nat), U ≤ 8 ∧ X.1 56 1 = nI U ∧ Y.1 0 23 = nI U ∧ (∀ i, i < 8 → π i < 8 ∧ X.2.2 57 i = 58 + 9 * π i) ∧ (∀ i j, i < 8 → j < 8 → π i = π j → i = j) ∧ ∀ i, i < U → rSt (58 + 9 * π i) X (uSl Y i) P N ∧ wSt (uSl Y i) P N
theorem rPast_fr {X X' Y Y' : MM} {P N : Nat} (h1 : ∀ k, 56 ≤ k → k ≤ 129 → X'.1 k = X.1 k) (h2 : X'.2.2 57 = X.2.2 57) (h3 : Y'.1 7 = Y.1 7) (h4 : Y'.1 0 23 = Y.1 0 23) (h : rPast X Y P N) : rPast X' Y' P N := by
  obtain ⟨U, π, a1, a2, a3, a4, a5, a6⟩ := h
  refine ⟨U, π, a1, by rw [h1 56 (by omega) (by omega)]; exact a2, by rw [h4]; exact a3, fun i hi => by rw [h2]; exact a4 i hi, a5, fun i hi => ?_⟩
  have e : uSl Y' i = uSl Y i := by unfold uSl; rw [h3]
  have hp := (a4 i (by omega)).1
  rw [e]
  exact ⟨rSt_fr (fun k k1 k2 => h1 k (by omega) (by omega)) (a6 i hi).1, (a6 i hi).2⟩
theorem isS_past : ∀ i, i < 8 → xt_isS (58 + 9 * i) = true := by decide
theorem x_drop {X : MM} {π : Nat → Nat} (hp : ∀ i, i < 8 → π i < 8 ∧ X.2.2 57 i = 58 + 9 * π i) : ∃ X', fX5_dropOldest X = some X' ∧ (∀ k, k ≠ 56 → X'.1 k = X.1 k) ∧ X'.1 56 1 = nI 7 ∧ X'.2.1 = X.2.1 ∧ (∀ a, a ≠ 57 → X'.2.2 a = X.2.2 a) ∧ (∀ i, i < 7 → X'.2.2 57 i = X.2.2 57 (i + 1)) ∧ X'.2.2 57 7 = X.2.2 57 0 := by
  have hc : xt_isS (X.2.2 57 0) = true := by
    obtain ⟨h1, h2⟩ := hp 0 (by omega)
    rw [h2]
    exact isS_past _ h1
  obtain ⟨X1, a1, -, a2, a3, a4, a5, a6⟩ := loop_rel (fun n k Z => fX5_dropOldest_9 (X.2.2 57 0) n (nI k) Z) 8 (fun k Z => 1 ≤ k ∧ Z.1 = X.1 ∧ Z.2.1 = X.2.1 ∧ (∀ a, a ≠ 57 → Z.2.2 a = X.2.2 a) ∧ (∀ j, j + 1 < k → Z.2.2 57 j = X.2.2 57 (j + 1)) ∧ (∀ j, k ≤ j + 1 → Z.2.2 57 j = X.2.2 57 j)) (fun Z => some (mx_si (mx_sr Z 57 7 (X.2.2 57 0)) 56 1 (7 : Int32))) (fun n Z _ => by
      show fX5_dropOldest_9 _ (n + 1) (nI 8) Z = _
      rw [fX5_dropOldest_9, c8, if_pos (nI_le (by omega) (by omega)), if_pos hc]) (fun n k Z hk ⟨r0, r1, r2, r3, r4, r5⟩ => by
      show ∃ Z', fX5_dropOldest_9 _ (n + 1) (nI k) Z = fX5_dropOldest_9 _ n (nI (k + 1)) Z' ∧ _
      rw [fX5_dropOldest_9, c8, if_neg (nI_ge hk (by omega)), pb_gd (by omega) (by omega)]
      obtain ⟨z, rfl⟩ : ∃ z, k = z + 1 := ⟨k - 1, by omega⟩
      obtain ⟨h1, h2⟩ := hp (z + 1) hk
      rw [nI_pred, pb_gd (by omega) (by omega), nI_clamp (by omega), nI_clamp (by omega), r5 (z + 1) (by omega), h2, if_pos (isS_past _ h1), nI_1, ← h2]
      refine ⟨_, rfl, by omega, r1, r2, fun a ha => ?_, fun j hj => ?_, fun j hj => ?_⟩
      · show (fun b => if a = 57 ∧ b = z then _ else _) = _
        funext b
        rw [if_neg (by omega), r3 a ha]
      · show (if _ then _ else _) = _
        by_cases hjz : j = z
        · subst hjz
          rw [if_pos ⟨rfl, rfl⟩]
        · rw [if_neg (by omega)]
          exact r4 j (by omega)
      · show (if _ then _ else _) = _
        rw [if_neg (by omega)]
        exact r5 j (by omega)) 7 1 mx_fu X (by omega) (by unfold mx_fu; omega) ⟨Nat.le_refl 1, rfl, rfl, fun _ _ => rfl, fun j hj => by omega, fun _ _ => rfl⟩
  refine ⟨_, a1, fun k hk => ?_, si_eq, a3, fun a ha => ?_, fun i hi => ?_, ?_⟩
  · rw [si_row hk]
    show X1.1 k = X.1 k
    rw [a2]
  · show (fun b => if a = 57 ∧ b = 7 then _ else _) = _
    funext b
    rw [if_neg (by omega), a4 a ha]
  · show (if _ then _ else _) = _
    rw [if_neg (by omega)]
    exact a5 i (by omega)
  · show (if (57 : Nat) = 57 ∧ (7 : Nat) = 7 then X.2.2 57 0 else X1.2.2 57 7) = _
    rw [if_pos ⟨rfl, rfl⟩]
theorem wSt_congr {S S' : Nat → Int32} {P N : Nat} (hP : P ≤ 7) (hN : N ≤ 7) (h : ∀ i, 54 ≤ i → i < 113 → S' i = S i) (hW : wSt S P N) : wSt S' P N := wSt_same h hP hN hW
/-- a state is pushed on both sides -/
theorem x_push {o1 P N : Nat} {X Y Y' : MM} {S : Nat → Int32} (ho : o1 + 8 < 56) (hP : P ≤ 7) (hN : N ≤ 7) (hR : rSt o1 X S P N) (hW : wSt S P N) (hp : rPast X Y P N) (hk : ∀ U, Y.1 0 23 = nI U → U ≤ 8 → mKept Y Y' U S) : ∃ X', fX5_push o1 X = some X' ∧ (∀ k, (k < 56 ∨ 129 < k) → X'.1 k = X.1 k) ∧ X'.2.1 = X.2.1 ∧ (∀ a, a ≠ 57 → X'.2.2 a = X.2.2 a) ∧ rPast X' Y' P N := by
  obtain ⟨U, π, hU, x1, y1, h1, h2, h3⟩ := hp
  obtain ⟨-, -, -, k1, k2⟩ := hk U y1 hU
  have slice : ∀ (i : Nat), (∀ j, j < 59 → Y'.1 7 (59 * i + j) = S (54 + j)) → ∀ j, 54 ≤ j → j < 113 → uSl Y' i j = S j := by
    intro i h j j1 j2
    have := h (j - 54) (by omega)
    rw [show 54 + (j - 54) = j by omega] at this
    exact this
  -- the end of it: a place that isn't full
  have tail : ∀ (V : Nat) (Z : MM) (ρ : Nat → Nat), V < 8 → Z.1 56 1 = nI V → (∀ i, i < 8 → ρ i < 8 ∧ Z.2.2 57 i = 58 + 9 * ρ i) → (∀ i j, i < 8 → j < 8 → ρ i = ρ j → i = j) → rSt o1 Z S P N → (∀ i, i < V → rSt (58 + 9 * ρ i) Z (uSl Y' i) P N ∧ wSt (uSl Y' i) P N) → Y'.1 0 23 = nI (V + 1) → (∀ j, j < 59 → Y'.1 7 (59 * V + j) = S (54 + j)) → ∃ X', fX5_push_13 o1 Z = some X' ∧ (∀ k, (k < 56 ∨ 129 < k) → X'.1 k = Z.1 k) ∧ X'.2 = Z.2 ∧ rPast X' Y' P N := by
    intro V Z ρ hV z1 z2 z3 z4 z5 z6 z7
    obtain ⟨q1, q2⟩ := z2 V hV
    rw [fX5_push_13, z1, pb_gd hV (by omega), nI_clamp (by omega), q2, if_pos (isS_past _ q1)]
    obtain ⟨Z1, b1, b2, b3⟩ := x_copySt (o := 58 + 9 * ρ V) (o1 := o1) (X := Z) (Or.inl (by omega))
    rw [b1]
    simp only [pb_bs]
    refine ⟨_, rfl, fun k hk' => ?_, b2.2, V + 1, ρ, by omega, ?_, z6, fun i hi => ?_, z3, fun i hi => ?_⟩
    · rw [si_row (by omega), b2.1 k (by omega)]
    · rw [si_eq, b2.1 56 (by omega), z1, nI_1]
    · show _ ∧ Z1.2.2 57 i = _
      rw [b2.2]
      exact z2 i hi
    · by_cases hiV : i = V
      · subst hiV
        have e := slice i z7
        refine ⟨rSt_congr hP hN e (rSt_fr (X := Z1) (fun k k1 k2 => si_row (by omega)) (b3 S P N hP hN z4)), wSt_congr hP hN e hW⟩
      · obtain ⟨r1, r2⟩ := z5 i (by omega)
        refine ⟨rSt_fr (X := Z) (fun k k1 k2 => ?_) r1, r2⟩
        have hne : ρ i ≠ ρ V := fun e => hiV (z3 i V (by omega) hV e)
        rw [si_row (by omega), b2.1 k (by omega)]
  rw [fX5_push, x1, c8]
  simp only [pb_lt (show U < 2 ^ 31 by omega) (show 8 < 2 ^ 31 by omega)]
  by_cases hU8 : U < 8
  · obtain ⟨j1, j2, j3⟩ := k1 hU8
    rw [if_pos hU8]
    obtain ⟨X', e1, e2, e3, e4⟩ := tail U X π hU8 x1 h1 h2 hR (fun i hi => by
      obtain ⟨r1, r2⟩ := h3 i hi
      have e : ∀ j, 54 ≤ j → j < 113 → uSl Y' i j = uSl Y i j := fun j a b => j2 i (j - 54) hi (by omega)
      exact ⟨rSt_congr hP hN e r1, wSt_congr hP hN e r2⟩) j1 j3
    exact ⟨X', e1, e2, by rw [e3], fun a ha => by rw [e3], e4⟩
  · have hU8' : U = 8 := by omega
    subst hU8'
    obtain ⟨j1, j2, j3⟩ := k2 rfl
    rw [if_neg hU8]
    obtain ⟨Z, d1, d2, d3, d4, d5, d6, d7⟩ := x_drop h1
    rw [d1]
    simp only [pb_bs]
    obtain ⟨X', e1, e2, e3, e4⟩ := tail 7 Z (fun i => if i < 7 then π (i + 1) else π 0) (by omega) d3 (fun i hi => by
        by_cases h7 : i < 7
        · simp only [if_pos h7]
          rw [d6 i h7]
          exact h1 (i + 1) (by omega)
        · simp only [if_neg h7]
          have : i = 7 := by omega
          subst this
          rw [d7]
          exact h1 0 (by omega)) (fun i j hi hj he => by
        by_cases h7 : i < 7 <;> by_cases h7' : j < 7
        · simp only [if_pos h7, if_pos h7'] at he
          have := h2 (i + 1) (j + 1) (by omega) (by omega) he
          omega
        · simp only [if_pos h7, if_neg h7'] at he
          have := h2 (i + 1) 0 (by omega) (by omega) he
          omega
        · simp only [if_neg h7, if_pos h7'] at he
          have := h2 0 (j + 1) (by omega) (by omega) he
          omega
        · omega) (rSt_fr (fun k a b => d2 k (by omega)) hR) (fun i hi => by
        simp only [if_pos hi]
        obtain ⟨r1, r2⟩ := h3 (i + 1) (by omega)
        have hq := (h1 (i + 1) (by omega)).1
        have e : ∀ j, 54 ≤ j → j < 113 → uSl Y' i j = uSl Y (i + 1) j := fun j a b => j2 i (j - 54) hi (by omega)
        exact ⟨rSt_congr hP hN e (rSt_fr (fun k a b => d2 k (by omega)) r1), wSt_congr hP hN e r2⟩) j1 j3
    exact ⟨X', e1, fun k hk => (e2 k hk).trans (d2 k (by omega)), by rw [e3]; exact d4, fun a ha => by rw [e3]; exact d5 a ha, e4⟩
