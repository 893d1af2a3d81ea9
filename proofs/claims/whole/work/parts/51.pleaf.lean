/-! leaves: what the small methods of both answer, in words of the reference's row S (its int array s) -/
/-- of the land: P persons, N rings, what the text told -/
def wLd (S : Nat → Int32) (P N : Nat) : Prop :=
  S 0 = nI P ∧ P ≤ 7 ∧ S 1 = nI N ∧ N ≤ 7 ∧ (∃ f, f ≤ 5 ∧ S 2 = nI f) ∧ (∃ w, 1 ≤ w ∧ w ≤ 20 ∧ S 3 = nI w) ∧ (∃ j, 2 ≤ j ∧ j ≤ 9 ∧ S 4 = nI j) ∧
  (∀ p, p < P → (∃ a, a ≤ 20 ∧ S (5 + p) = nI a) ∧ (∃ a, a ≤ 20 ∧ S (12 + p) = nI a) ∧ ∃ a, 1 ≤ a ∧ a ≤ 20 ∧ S (19 + p) = nI a) ∧
  (∀ r, r < N → (∃ a, 1 ≤ a ∧ a ≤ 20 ∧ S (26 + r) = nI a) ∧ (∃ a, a < P ∧ S (33 + r) = nI a) ∧ (∃ a, a < P ∧ S (40 + r) = nI a) ∧ ∃ a, a ≤ 300 ∧ S (47 + r) = nI a)
/-- of the state on it -/
def wSt (S : Nat → Int32) (P N : Nat) : Prop :=
  (∃ d, d ≤ 400 ∧ S 54 = nI d) ∧ (∀ p, p < P → (∃ a, a ≤ 20 ∧ S (57 + p) = nI a) ∧ (∃ a, a ≤ 20 ∧ S (64 + p) = nI a) ∧ ∃ a, a ≤ 20 ∧ S (71 + p) = nI a) ∧
  (∀ r, r < N → (∃ a, a < P ∧ S (78 + r) = nI a) ∧ (S (85 + r) = 0 ∨ S (85 + r) = 1 ∨ S (85 + r) = 2) ∧ (∃ a, a ≤ 20 ∧ S (99 + r) = nI a) ∧ ∃ a, a ≤ 20 ∧ S (106 + r) = nI a)
/-- the class's island at LAND (cell 9) is that of S -/
def rLd (X : MM) (S : Nat → Int32) (P N : Nat) : Prop :=
  X.1 9 0 = S 0 ∧ X.1 9 1 = S 1 ∧ X.1 9 11 = S 2 ∧ X.1 9 12 = S 3 ∧ X.1 9 13 = S 4 ∧
  (∀ p, p < P → X.1 11 p = S (5 + p) ∧ X.1 12 p = S (12 + p) ∧ X.1 13 p = S (19 + p)) ∧
  (∀ r, r < N → X.1 15 r = S (26 + r) ∧ X.1 16 r = S (33 + r) ∧ X.1 17 r = S (40 + r) ∧ X.1 18 r = S (47 + r))
/-- the class's state at the cells o .. o + 8 is that of S -/
def rSt (o : Nat) (X : MM) (S : Nat → Int32) (P N : Nat) : Prop :=
  X.1 o 9 = S 54 ∧ X.1 o 10 = S 55 ∧ X.1 o 11 = S 56 ∧
  (∀ p, p < P → X.1 (o + 1) p = S (57 + p) ∧ X.1 (o + 2) p = S (64 + p) ∧ X.1 (o + 3) p = S (71 + p)) ∧
  (∀ r, r < N → X.1 (o + 5) r = S (85 + r) ∧ X.1 (o + 8) r = S (92 + r) ∧ (S (85 + r) ≠ 2 → X.1 (o + 4) r = S (78 + r)) ∧ (S (85 + r) = 2 → X.1 (o + 4) r = -1 ∧ X.1 (o + 6) r = S (99 + r) ∧ X.1 (o + 7) r = S (106 + r)))
/-! words of S -/
def sKeeps (S : Nat → Int32) (q : Int32) (r : Nat) : Bool := decide (S (85 + r) = 0) && decide (S (78 + r) = q)
def sHas (S : Nat → Int32) (q : Int32) (r : Nat) : Bool := !decide (S (85 + r) = 2) && decide (S (78 + r) = q)
def sWears (S : Nat → Int32) (q : Int32) (r : Nat) : Bool := decide (S (85 + r) = 1) && decide (S (78 + r) = q)
def sKept (S : Nat → Int32) (N : Nat) (q : Int32) : Int32 := pbits (sKeeps S q) N
def sWorn (S : Nat → Int32) (N : Nat) (q : Int32) : Int32 := if pfst (sWears S q) 0 N < N then nI (pfst (sWears S q) 0 N) else -1
def sOwned (S : Nat → Int32) (N : Nat) (q : Int32) : Int32 := pbits (fun r => decide (S (33 + r) = q)) N
def sBy (S : Nat → Int32) (N row : Nat) (v : Int32) : Int32 := pbits (fun r => decide (S (row + r) = v)) N
def pabs (x : Int32) : Int32 := if 0 ≤ x then x else -x
def sFar (S : Nat → Int32) (q : Nat) (x y : Int32) : Int32 := pabs (S (57 + q) - x) + pabs (S (64 + q) - y)
/-! the reference -/
theorem m_keeps {q : Int32} {r : Nat} {M : MM} (hr : r < 7) : fX13_keeps q (nI r) M = some (sKeeps (M.1 2) q r) := by
  rw [fX13_keeps, c85, c78]
  simp only [nI_add]
  rw [pb_gd (by omega) (by omega), pb_gd (by omega) (by omega), nI_clamp (by omega), nI_clamp (by omega), sKeeps]
  by_cases h1 : M.1 2 (85 + r) = 0 <;> by_cases h2 : M.1 2 (78 + r) = q <;> simp [h1, h2]
theorem m_has {q : Int32} {r : Nat} {M : MM} (hr : r < 7) : fX13_has q (nI r) M = some (sHas (M.1 2) q r) := by
  rw [fX13_has, c85, c78]
  simp only [nI_add]
  rw [pb_gd (by omega) (by omega), pb_gd (by omega) (by omega), nI_clamp (by omega), nI_clamp (by omega), sHas]
  by_cases h1 : M.1 2 (85 + r) = 2 <;> by_cases h2 : M.1 2 (78 + r) = q <;> simp [h1, h2]
theorem m_keptBy {q : Int32} {M : MM} {N : Nat} (hN : N ≤ 7) (hM : M.1 2 1 = nI N) : fX13_keptBy q M = some (sKept (M.1 2) N q) := by
  refine loop_bits (F := fX13_keptBy_4 q M) (by omega) (fun n acc => ?_) (fun n acc k hk => ?_)
  · rw [fX13_keptBy_4, hM, if_pos (nI_le (Nat.le_refl N) (by omega))]
  · rw [fX13_keptBy_4, hM, if_neg (nI_ge hk (by omega)), m_keeps (by omega)]
    simp only [pb_bs, pb_or0, nI_1, pb_b0]
    cases sKeeps (M.1 2) q k <;> rfl
theorem m_wornBy {q : Int32} {M : MM} {N : Nat} (hN : N ≤ 7) (hM : M.1 2 1 = nI N) : fX13_wornBy q M = some (sWorn (M.1 2) N q) := by
  refine (loop_fst (F := fX13_wornBy_2 q M) (f := sWears (M.1 2) q) (N := N) (fin := fun k => some (if k < N then nI k else -1)) (by omega) (fun n => ?_) (fun n k hk => ?_)).trans rfl
  · rw [fX13_wornBy_2, hM, if_pos (nI_le (Nat.le_refl N) (by omega)), if_neg (Nat.lt_irrefl N)]
  · rw [fX13_wornBy_2, hM, if_neg (nI_ge hk (by omega)), c85, c78]
    simp only [nI_add, nI_1]
    rw [pb_gd (by omega) (by omega), pb_gd (by omega) (by omega), nI_clamp (by omega), nI_clamp (by omega), sWears, if_pos hk]
    by_cases h1 : M.1 2 (85 + k) = 1 <;> by_cases h2 : M.1 2 (78 + k) = q <;> simp [h1, h2]
theorem m_ownedBy {q : Int32} {M : MM} {N : Nat} (hN : N ≤ 7) (hM : M.1 2 1 = nI N) : fX13_ownedBy q M = some (sOwned (M.1 2) N q) := by
  refine loop_bits (F := fX13_ownedBy_4 q M) (by omega) (fun n acc => ?_) (fun n acc k hk => ?_)
  · rw [fX13_ownedBy_4, hM, if_pos (nI_le (Nat.le_refl N) (by omega))]
  · rw [fX13_ownedBy_4, hM, if_neg (nI_ge hk (by omega)), c33]
    simp only [nI_add, nI_1, pb_or0]
    rw [pb_gd (by omega) (by omega), nI_clamp (by omega)]
    by_cases h1 : M.1 2 (33 + k) = q <;> simp [h1]
theorem m_ringsBy {row : Nat} {v : Int32} {M : MM} {N : Nat} (hrow : row ≤ 200) (hN : N ≤ 7) (hM : M.1 2 1 = nI N) : fX13_ringsBy (nI row) v M = some (sBy (M.1 2) N row v) := by
  refine loop_bits (F := fX13_ringsBy_5 (nI row) v M) (by omega) (fun n acc => ?_) (fun n acc k hk => ?_)
  · rw [fX13_ringsBy_5, hM, if_pos (nI_le (Nat.le_refl N) (by omega))]
  · rw [fX13_ringsBy_5, hM, if_neg (nI_ge hk (by omega))]
    simp only [nI_add, nI_1, pb_or0]
    rw [pb_gd (by omega) (by omega), nI_clamp (by omega)]
    by_cases h1 : M.1 2 (row + k) = v <;> simp [h1]
theorem m_absolute {x : Int32} {M : MM} : fX13_absolute x M = some (pabs x) := by
  rw [fX13_absolute, pabs]
  split <;> rfl
theorem m_farBy {q : Nat} {x y : Int32} {M : MM} (hq : q < 7) : fX13_farBy (nI q) x y M = some (sFar (M.1 2) q x y) := by
  rw [fX13_farBy, c57, c64]
  simp only [nI_add, m_absolute, pb_bs]
  rw [pb_gd (by omega) (by omega), pb_gd (by omega) (by omega), nI_clamp (by omega), nI_clamp (by omega)]
  rfl
theorem m_farOf {q r : Nat} {M : MM} (hq : q < 7) (hr : r < 7) : fX13_farOf (nI q) (nI r) M = some (sFar (M.1 2) q (M.1 2 (57 + r)) (M.1 2 (64 + r))) := by
  rw [fX13_farOf, c57, c64]
  simp only [nI_add]
  rw [pb_gd (by omega) (by omega), pb_gd (by omega) (by omega), nI_clamp (by omega), nI_clamp (by omega), m_farBy hq]
  rfl
/-! the class -/
theorem x_isKeptBy {o : Nat} {p : Int32} {r P N : Nat} {X : MM} {S : Nat → Int32} (hR : rSt o X S P N) (hr : r < N) (hN : N ≤ 7) : fX9_isKeptBy o (nI r) p X = some (sKeeps S p r) := by
  obtain ⟨-, -, -, -, h⟩ := hR
  obtain ⟨h5, -, h4, -⟩ := h r hr
  rw [fX9_isKeptBy, pb_gd (by omega) (by omega), pb_gd (by omega) (by omega), nI_clamp (by omega), h5, sKeeps]
  by_cases h1 : S (85 + r) = 0
  · rw [h4 (by rw [h1]; decide)]
    by_cases h2 : S (78 + r) = p <;> simp [h1, h2]
  · simp [h1]
theorem x_keptBy {o : Nat} {p : Int32} {P N : Nat} {X : MM} {S : Nat → Int32} (hL : X.1 9 1 = nI N) (hR : rSt o X S P N) (hN : N ≤ 7) : fX9_keptBy o p X = some (sKept S N p) := by
  refine loop_bits (F := fX9_keptBy_4 o p X) (by omega) (fun n acc => ?_) (fun n acc k hk => ?_)
  · rw [fX9_keptBy_4, hL, if_pos (nI_le (Nat.le_refl N) (by omega))]
  · rw [fX9_keptBy_4, hL, if_neg (nI_ge hk (by omega)), x_isKeptBy hR hk hN]
    simp only [pb_bs, nI_1, pb_b0]
    cases sKeeps S p k <;> rfl
theorem x_wornBy {o : Nat} {p : Int32} {P N : Nat} {X : MM} {S : Nat → Int32} (hL : X.1 9 1 = nI N) (hR : rSt o X S P N) (hN : N ≤ 7) : fX9_wornBy o p X = some (sWorn S N p) := by
  refine (loop_fst (F := fX9_wornBy_2 o p X) (f := sWears S p) (N := N) (fin := fun k => some (if k < N then nI k else -1)) (by omega) (fun n => ?_) (fun n k hk => ?_)).trans rfl
  · rw [fX9_wornBy_2, hL, if_pos (nI_le (Nat.le_refl N) (by omega)), if_neg (Nat.lt_irrefl N)]
  · obtain ⟨-, -, -, -, h⟩ := hR
    obtain ⟨h5, -, h4, -⟩ := h k hk
    rw [fX9_wornBy_2, hL, if_neg (nI_ge hk (by omega)), pb_gd (by omega) (by omega), pb_gd (by omega) (by omega), nI_clamp (by omega), h5, sWears, if_pos hk]
    simp only [nI_1]
    by_cases h1 : S (85 + k) = 1
    · rw [h4 (by rw [h1]; decide)]
      by_cases h2 : S (78 + k) = p <;> simp [h1, h2]
    · simp [h1]
theorem x_ownedBy {p : Int32} {P N : Nat} {X : MM} {S : Nat → Int32} (hL : rLd X S P N) (hS : S 1 = nI N) (hN : N ≤ 7) : fX3_ownedBy p X = some (sOwned S N p) := by
  obtain ⟨-, hL1, -, -, -, -, h⟩ := hL
  refine loop_bits (F := fX3_ownedBy_4 p X) (by omega) (fun n acc => ?_) (fun n acc k hk => ?_)
  · rw [fX3_ownedBy_4, hL1, hS, if_pos (nI_le (Nat.le_refl N) (by omega))]
  · rw [fX3_ownedBy_4, hL1, hS, if_neg (nI_ge hk (by omega)), pb_gd (by omega) (by omega), nI_clamp (by omega), (h k hk).2.1]
    simp only [nI_1]
    by_cases h1 : S (33 + k) = p <;> simp [h1]
theorem x_ringsWith {a o row : Nat} {v : Int32} {N : Nat} {X : MM} {S : Nat → Int32} (hL : X.1 9 1 = nI N) (hN : N ≤ 7) (h : ∀ r, r < N → X.1 a r = S (row + r)) : fX9_ringsWith o a v X = some (sBy S N row v) := by
  refine loop_bits (F := fX9_ringsWith_5 o a v X) (by omega) (fun n acc => ?_) (fun n acc k hk => ?_)
  · rw [fX9_ringsWith_5, hL, if_pos (nI_le (Nat.le_refl N) (by omega))]
  · rw [fX9_ringsWith_5, hL, if_neg (nI_ge hk (by omega)), pb_gd (by omega) (by omega), nI_clamp (by omega), h k hk]
    simp only [nI_1]
    by_cases h1 : S (row + k) = v <;> simp [h1]
theorem x_farTo {o q : Nat} {x y : Int32} {P N : Nat} {X : MM} {S : Nat → Int32} (hR : rSt o X S P N) (hq : q < P) (hP : P ≤ 7) : fX9_farTo o (nI q) x y X = some (sFar S q x y) := by
  obtain ⟨-, -, -, h, -⟩ := hR
  obtain ⟨h1, h2, -⟩ := h q hq
  rw [fX9_farTo, pb_gd (by omega) (by omega), pb_gd (by omega) (by omega), nI_clamp (by omega), h1, h2, pb_abs, pb_abs]
  rfl
theorem x_farBetween {o q r : Nat} {P N : Nat} {X : MM} {S : Nat → Int32} (hR : rSt o X S P N) (hq : q < P) (hr : r < P) (hP : P ≤ 7) : fX9_farBetween o (nI q) (nI r) X = some (sFar S q (S (57 + r)) (S (64 + r))) := by
  rw [fX9_farBetween, pb_gd (by omega) (by omega), pb_gd (by omega) (by omega), nI_clamp (by omega), x_farTo hR hq hP]
  obtain ⟨-, -, -, h, -⟩ := hR
  obtain ⟨h1, h2, -⟩ := h r hr
  rw [h1, h2]
  rfl
