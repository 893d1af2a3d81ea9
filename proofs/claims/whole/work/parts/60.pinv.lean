/-! THE INVARIANT of the two memories: X the class's, Y the reference's -/
/-- words: n letters 1 .. 26; the class counts them by 32, the reference by 256 -/
def enc : Nat → Nat → Nat → Prop
  | 0, a, b => a = 0 ∧ b = 0
  | n + 1, a, b => ∃ a' b' c, enc n a' b' ∧ 1 ≤ c ∧ c ≤ 26 ∧ a = a' * 32 + c ∧ b = b' * 256 + (c + 96)
def rN (x y : Int64) : Prop := ∃ n a b, n ≤ 7 ∧ enc n a b ∧ x = lN a ∧ y = lN b
/-- names of persons and rings: X's at the island o, Y's in a row of longs -/
def rNm (o : Nat) (X : MM) (R : Nat → Int64) (P N : Nat) : Prop :=
  (∀ p, p < P → rN (X.2.1 (o + 1) p) (R p)) ∧ ∀ r, r < N → rN (X.2.1 (o + 5) r) (R (7 + r))
/-- an island of the class at o is that of S (rLd is this at 9) -/
def rLo (o : Nat) (X : MM) (S : Nat → Int32) (P N : Nat) : Prop :=
  X.1 o 0 = S 0 ∧ X.1 o 1 = S 1 ∧ X.1 o 11 = S 2 ∧ X.1 o 12 = S 3 ∧ X.1 o 13 = S 4 ∧
  (∀ p, p < P → X.1 (o + 2) p = S (5 + p) ∧ X.1 (o + 3) p = S (12 + p) ∧ X.1 (o + 4) p = S (19 + p)) ∧
  (∀ r, r < N → X.1 (o + 6) r = S (26 + r) ∧ X.1 (o + 7) r = S (33 + r) ∧ X.1 (o + 8) r = S (40 + r) ∧ X.1 (o + 9) r = S (47 + r))
theorem rLo_9 {X : MM} {S : Nat → Int32} {P N : Nat} : rLo 9 X S P N = rLd X S P N := rfl
/-- one code of a sentence: the class's word, sign, number; the reference's three -/
def rC (P N w : Nat) (sg nm c s n : Int32) : Prop :=
  sg = s ∧ nm = n ∧ ((∃ l, l ≤ 8 ∧ w = 15 + l ∧ c = nI l ∧ (l = 3 → ∃ r, r < N ∧ n = nI r) ∧ (l = 4 → ∃ q, q < P ∧ n = nI q) ∧ (5 ≤ l → s = 60 ∨ s = 61 ∨ s = 62)) ∨ (w = 14 ∧ c = 20) ∨ (w = 13 ∧ c = 21) ∨ (w = 12 ∧ c = 22))
/-- how many truths wait behind so many codes -/
def sDp (S : Nat → Int32) : Nat → Option Nat
  | 0 => some 0
  | i + 1 => (sDp S i).bind fun d => if S (114 + 3 * i) = 20 then if 1 ≤ d then some d else none else if S (114 + 3 * i) = 21 ∨ S (114 + 3 * i) = 22 then if 2 ≤ d then some (d - 1) else none else some (d + 1)
def rSy (o : Nat) (X : MM) (S : Nat → Int32) (P N : Nat) : Prop :=
  ∃ n ones, n ≤ 40 ∧ X.1 o 3 = nI n ∧ S 113 = nI n ∧ X.1 o 4 = nI ones ∧ ones ≤ 20 ∧ (ones = 0 ↔ n = 0) ∧ (n = 0 ∨ sDp S n = some 1) ∧
    ∀ i, i < n → rC P N (X.2.2 (o + 1) i) (X.1 (o + 2) i) (X.1 (o + 3) i) (S (114 + 3 * i)) (S (115 + 3 * i)) (S (116 + 3 * i))
def rTp (X Y : MM) : Prop := ∃ L, L ≤ 940 ∧ X.1 1 1 = nI L ∧ Y.1 0 2 = nI L ∧ ∀ i, i < L → X.1 2 i = Y.1 1 i
/-- the row of the image k -/
def imS (Y : MM) (k : Nat) : Nat → Int32 := fun j => Y.1 19 (294 * k + j)
def imR (Y : MM) (k : Nat) : Nat → Int64 := fun j => Y.2.1 20 (14 * k + j)
def rIm1 (X Y : MM) (k : Nat) : Prop :=
  X.1 157 k = Y.1 21 k ∧ (Y.1 21 k ≠ 0 → ∃ P N, wLd (imS Y k) P N ∧ wSt (imS Y k) P N ∧ rLo (158 + 23 * k) X (imS Y k) P N ∧ rSt (168 + 23 * k) X (imS Y k) P N ∧ rSy (177 + 23 * k) X (imS Y k) P N ∧ rNm (158 + 23 * k) X (imR Y k) P N)
def rIm (X Y : MM) : Prop := rIm1 X Y 0 ∧ rIm1 X Y 1
def rPl (X Y : MM) : Prop :=
  (∃ n, n ≤ 7 ∧ X.1 143 1 = nI n ∧ (Y.1 0 26 = nI n ∨ (n = 0 ∧ Y.1 0 26 = -1)) ∧ ∀ k, k < n → X.1 144 k = Y.1 10 k) ∧
  ∃ m, m ≤ 7 ∧ (Y.1 0 29 = nI m ∨ (m = 0 ∧ Y.1 0 29 = -1)) ∧ ∀ r, r < 7 → X.1 145 r = if r < m then Y.1 12 r else -1
def rFi (X Y : MM) : Prop := (Y.1 0 32 = 0 ∧ X.1 149 0 = -1 ∧ X.1 149 1 = -1) ∨ (Y.1 0 32 = 1 ∧ X.1 149 0 = Y.1 0 30 ∧ X.1 149 1 = Y.1 0 31)
def rNt (X Y : MM) : Prop := ∃ n, n ≤ 104 ∧ X.1 152 1 = nI n ∧ Y.1 0 37 = nI n ∧ ∀ i, i < n → X.1 153 i = Y.1 15 i
def rBk (X Y : MM) : Prop := (X.1 138 5 = 0 ∧ Y.1 0 41 = 0) ∨ (X.1 138 5 = 1 ∧ Y.1 0 41 = 1 ∧ X.1 138 6 = Y.1 16 0 ∧ X.1 138 7 = Y.1 16 1 ∧ X.1 138 8 = Y.1 16 2 ∧ X.1 138 9 = Y.1 16 3)
/-- the reference's reserved words -/
def resW (k : Nat) : Int64 := ([123581014175598, 1919512167, 6711668, 2002873451, 117001056382053, 1735353715, 448311223411, 512801993331, 431365711475, 439855506547, 6578553, 28530, 6385252, 7237492, 125797149402468, 448311357561, 1650553445, 6840691, 25209, 461262647411, 495874044019, 112603009869170, 121450625394034] : List Int64).getD k 0
/-- what is set up once and stays -/
def rRf (X Y : MM) : Prop :=
  (∀ k, k < 2 → X.2.2 154 k = 158 + 23 * k ∧ X.2.2 155 k = 168 + 23 * k ∧ X.2.2 156 k = 177 + 23 * k) ∧
  (∀ i, i < 40 → X.2.2 131 i < 24 ∧ X.2.2 135 i < 24 ∧ X.2.2 178 i < 24 ∧ X.2.2 201 i < 24) ∧ ∀ k, k < 23 → Y.2.1 6 k = resW k
def Inv (X Y : MM) (P N : Nat) : Prop :=
  (wLd (Y.1 2) P N) ∧
  (wSt (Y.1 2) P N) ∧
  (rLd X (Y.1 2) P N) ∧
  (rSt 29 X (Y.1 2) P N) ∧
  (rPast X Y P N) ∧
  (rNm 9 X (Y.2.1 5) P N) ∧
  (rSy 130 X (Y.1 2) P N) ∧
  (rTp X Y) ∧
  (X.1 0 18 = Y.1 0 15) ∧
  (rIm X Y) ∧
  (rPl X Y) ∧
  (rFi X Y) ∧
  (rNt X Y) ∧
  (rBk X Y) ∧
  (rRf X Y)
theorem Inv.ld {X Y : MM} {P N : Nat} (h : Inv X Y P N) : wLd (Y.1 2) P N := h.1
theorem Inv.st {X Y : MM} {P N : Nat} (h : Inv X Y P N) : wSt (Y.1 2) P N := h.2.1
theorem Inv.rl {X Y : MM} {P N : Nat} (h : Inv X Y P N) : rLd X (Y.1 2) P N := h.2.2.1
theorem Inv.rs {X Y : MM} {P N : Nat} (h : Inv X Y P N) : rSt 29 X (Y.1 2) P N := h.2.2.2.1
theorem Inv.pa {X Y : MM} {P N : Nat} (h : Inv X Y P N) : rPast X Y P N := h.2.2.2.2.1
theorem Inv.nm {X Y : MM} {P N : Nat} (h : Inv X Y P N) : rNm 9 X (Y.2.1 5) P N := h.2.2.2.2.2.1
theorem Inv.sy {X Y : MM} {P N : Nat} (h : Inv X Y P N) : rSy 130 X (Y.1 2) P N := h.2.2.2.2.2.2.1
theorem Inv.tp {X Y : MM} {P N : Nat} (h : Inv X Y P N) : rTp X Y := h.2.2.2.2.2.2.2.1
theorem Inv.ft {X Y : MM} {P N : Nat} (h : Inv X Y P N) : X.1 0 18 = Y.1 0 15 := h.2.2.2.2.2.2.2.2.1
theorem Inv.im {X Y : MM} {P N : Nat} (h : Inv X Y P N) : rIm X Y := h.2.2.2.2.2.2.2.2.2.1
theorem Inv.pl {X Y : MM} {P N : Nat} (h : Inv X Y P N) : rPl X Y := h.2.2.2.2.2.2.2.2.2.2.1
theorem Inv.fi {X Y : MM} {P N : Nat} (h : Inv X Y P N) : rFi X Y := h.2.2.2.2.2.2.2.2.2.2.2.1
theorem Inv.nt {X Y : MM} {P N : Nat} (h : Inv X Y P N) : rNt X Y := h.2.2.2.2.2.2.2.2.2.2.2.2.1
theorem Inv.bk {X Y : MM} {P N : Nat} (h : Inv X Y P N) : rBk X Y := h.2.2.2.2.2.2.2.2.2.2.2.2.2.1
theorem Inv.rf {X Y : MM} {P N : Nat} (h : Inv X Y P N) : rRf X Y := h.2.2.2.2.2.2.2.2.2.2.2.2.2.2
/-! frames -/
theorem sDp_congr {S S' : Nat → Int32} (h : ∀ i, 113 ≤ i → S' i = S i) : ∀ n, sDp S' n = sDp S n := by
  intro n
  induction n with
  | zero => rfl
  | succ n ih => rw [sDp, sDp, ih, h (114 + 3 * n) (by omega)]
theorem rSy_fr {o P N : Nat} {X X' : MM} {S S' : Nat → Int32} (h0 : X'.1 o = X.1 o) (h1 : X'.2.2 (o + 1) = X.2.2 (o + 1)) (h2 : X'.1 (o + 2) = X.1 (o + 2)) (h3 : X'.1 (o + 3) = X.1 (o + 3)) (hS : ∀ i, 113 ≤ i → S' i = S i) (h : rSy o X S P N) : rSy o X' S' P N := by
  obtain ⟨n, ones, a1, a2, a3, a4, a5, a6, a7, a8⟩ := h
  refine ⟨n, ones, a1, by rw [h0]; exact a2, by rw [hS 113 (by omega)]; exact a3, by rw [h0]; exact a4, a5, a6, by rw [sDp_congr hS]; exact a7, fun i hi => ?_⟩
  rw [h1, h2, h3, hS _ (by omega), hS _ (by omega), hS _ (by omega)]
  exact a8 i hi
theorem rNm_fr {o P N : Nat} {X X' : MM} {R R' : Nat → Int64} (h1 : X'.2.1 (o + 1) = X.2.1 (o + 1)) (h2 : X'.2.1 (o + 5) = X.2.1 (o + 5)) (hP : P ≤ 7) (hN : N ≤ 7) (hR : ∀ i, i < 14 → R' i = R i) (h : rNm o X R P N) : rNm o X' R' P N := by
  refine ⟨fun p hp => ?_, fun r hr => ?_⟩
  · rw [h1, hR p (by omega)]; exact h.1 p hp
  · rw [h2, hR (7 + r) (by omega)]; exact h.2 r hr
theorem rLo_fr {o P N : Nat} {X X' : MM} {S S' : Nat → Int32} (hX : ∀ k, o ≤ k → k ≤ o + 9 → X'.1 k = X.1 k) (hP : P ≤ 7) (hN : N ≤ 7) (hS : ∀ i, i < 54 → S' i = S i) (h : rLo o X S P N) : rLo o X' S' P N := by
  obtain ⟨a1, a2, a3, a4, a5, a6, a7⟩ := h
  refine ⟨?_, ?_, ?_, ?_, ?_, fun p hp => ?_, fun r hr => ?_⟩
  · rw [hX o (by omega) (by omega), hS 0 (by omega)]; exact a1
  · rw [hX o (by omega) (by omega), hS 1 (by omega)]; exact a2
  · rw [hX o (by omega) (by omega), hS 2 (by omega)]; exact a3
  · rw [hX o (by omega) (by omega), hS 3 (by omega)]; exact a4
  · rw [hX o (by omega) (by omega), hS 4 (by omega)]; exact a5
  · rw [hX (o + 2) (by omega) (by omega), hX (o + 3) (by omega) (by omega), hX (o + 4) (by omega) (by omega), hS _ (by omega), hS _ (by omega), hS _ (by omega)]
    exact a6 p hp
  · rw [hX (o + 6) (by omega) (by omega), hX (o + 7) (by omega) (by omega), hX (o + 8) (by omega) (by omega), hX (o + 9) (by omega) (by omega), hS _ (by omega), hS _ (by omega), hS _ (by omega), hS _ (by omega)]
    exact a7 r hr
theorem rTp_fr {X X' Y Y' : MM} (h1 : X'.1 1 = X.1 1) (h2 : X'.1 2 = X.1 2) (h3 : Y'.1 0 2 = Y.1 0 2) (h4 : Y'.1 1 = Y.1 1) (h : rTp X Y) : rTp X' Y' := by
  obtain ⟨L, a⟩ := h
  exact ⟨L, by rw [h1, h2, h3, h4]; exact a⟩
theorem rIm1_fr {X X' Y Y' : MM} {k : Nat} (h1 : ∀ j, 157 ≤ j → X'.1 j = X.1 j) (h2 : ∀ j, 157 ≤ j → X'.2.1 j = X.2.1 j) (h3 : ∀ j, 157 ≤ j → X'.2.2 j = X.2.2 j) (h4 : Y'.1 19 = Y.1 19) (h5 : Y'.2.1 20 = Y.2.1 20) (h6 : Y'.1 21 = Y.1 21) (h : rIm1 X Y k) : rIm1 X' Y' k := by
  obtain ⟨a, b⟩ := h
  have e1 : imS Y' k = imS Y k := by unfold imS; rw [h4]
  have e2 : imR Y' k = imR Y k := by unfold imR; rw [h5]
  refine ⟨by rw [h1 157 (by omega), h6]; exact a, fun hk => ?_⟩
  rw [h6] at hk
  obtain ⟨P, N, b1, b2, b3, b4, b5, b6⟩ := b hk
  rw [e1, e2]
  exact ⟨P, N, b1, b2, rLo_fr (fun j j1 j2 => h1 j (by omega)) b1.2.1 b1.2.2.2.1 (fun _ _ => rfl) b3, rSt_fr (fun j j1 j2 => h1 j (by omega)) b4, rSy_fr (h1 _ (by omega)) (h3 _ (by omega)) (h1 _ (by omega)) (h1 _ (by omega)) (fun _ _ => rfl) b5, rNm_fr (h2 _ (by omega)) (h2 _ (by omega)) b1.2.1 b1.2.2.2.1 (fun _ _ => rfl) b6⟩
theorem rIm_fr {X X' Y Y' : MM} (h1 : ∀ j, 157 ≤ j → X'.1 j = X.1 j) (h2 : ∀ j, 157 ≤ j → X'.2.1 j = X.2.1 j) (h3 : ∀ j, 157 ≤ j → X'.2.2 j = X.2.2 j) (h4 : Y'.1 19 = Y.1 19) (h5 : Y'.2.1 20 = Y.2.1 20) (h6 : Y'.1 21 = Y.1 21) (h : rIm X Y) : rIm X' Y' := ⟨rIm1_fr h1 h2 h3 h4 h5 h6 h.1, rIm1_fr h1 h2 h3 h4 h5 h6 h.2⟩
theorem rPl_fr {X X' Y Y' : MM} (h1 : X'.1 143 1 = X.1 143 1) (h2 : X'.1 144 = X.1 144) (h3 : X'.1 145 = X.1 145) (h4 : Y'.1 0 26 = Y.1 0 26) (h5 : Y'.1 10 = Y.1 10) (h6 : Y'.1 0 29 = Y.1 0 29) (h7 : Y'.1 12 = Y.1 12) (h : rPl X Y) : rPl X' Y' := by
  unfold rPl
  rw [h1, h2, h3, h4, h5, h6, h7]
  exact h
theorem rFi_fr {X X' Y Y' : MM} (h1 : X'.1 149 = X.1 149) (h2 : Y'.1 0 32 = Y.1 0 32) (h3 : Y'.1 0 30 = Y.1 0 30) (h4 : Y'.1 0 31 = Y.1 0 31) (h : rFi X Y) : rFi X' Y' := by
  unfold rFi
  rw [h1, h2, h3, h4]
  exact h
theorem rNt_fr {X X' Y Y' : MM} (h1 : X'.1 152 = X.1 152) (h2 : X'.1 153 = X.1 153) (h3 : Y'.1 0 37 = Y.1 0 37) (h4 : Y'.1 15 = Y.1 15) (h : rNt X Y) : rNt X' Y' := by
  unfold rNt
  rw [h1, h2, h3, h4]
  exact h
theorem rBk_fr {X X' Y Y' : MM} (h1 : ∀ j, 5 ≤ j → X'.1 138 j = X.1 138 j) (h2 : Y'.1 0 41 = Y.1 0 41) (h3 : Y'.1 16 = Y.1 16) (h : rBk X Y) : rBk X' Y' := by
  unfold rBk
  rw [h1 5 (by omega), h1 6 (by omega), h1 7 (by omega), h1 8 (by omega), h1 9 (by omega), h2, h3]
  exact h
/-- the reference's cells that matter, apart from its row of state -/
def yKp (Y Y' : MM) : Prop :=
  (Y'.1 1 = Y.1 1) ∧
  (Y'.1 7 = Y.1 7) ∧
  (Y'.1 10 = Y.1 10) ∧
  (Y'.1 12 = Y.1 12) ∧
  (Y'.1 15 = Y.1 15) ∧
  (Y'.1 16 = Y.1 16) ∧
  (Y'.1 19 = Y.1 19) ∧
  (Y'.1 21 = Y.1 21) ∧
  (∀ j, (j = 2 ∨ j = 15 ∨ j = 23 ∨ j = 26 ∨ (29 ≤ j ∧ j ≤ 32) ∨ j = 37 ∨ j = 41) → Y'.1 0 j = Y.1 0 j) ∧
  (∀ i, i < 14 → Y'.2.1 5 i = Y.2.1 5 i) ∧
  (Y'.2.1 6 = Y.2.1 6) ∧
  (Y'.2.1 20 = Y.2.1 20)
theorem yKp.tape {Y Y' : MM} (h : yKp Y Y') : Y'.1 1 = Y.1 1 := h.1
theorem yKp.a7 {Y Y' : MM} (h : yKp Y Y') : Y'.1 7 = Y.1 7 := h.2.1
theorem yKp.a10 {Y Y' : MM} (h : yKp Y Y') : Y'.1 10 = Y.1 10 := h.2.2.1
theorem yKp.a12 {Y Y' : MM} (h : yKp Y Y') : Y'.1 12 = Y.1 12 := h.2.2.2.1
theorem yKp.a15 {Y Y' : MM} (h : yKp Y Y') : Y'.1 15 = Y.1 15 := h.2.2.2.2.1
theorem yKp.a16 {Y Y' : MM} (h : yKp Y Y') : Y'.1 16 = Y.1 16 := h.2.2.2.2.2.1
theorem yKp.a19 {Y Y' : MM} (h : yKp Y Y') : Y'.1 19 = Y.1 19 := h.2.2.2.2.2.2.1
theorem yKp.a21 {Y Y' : MM} (h : yKp Y Y') : Y'.1 21 = Y.1 21 := h.2.2.2.2.2.2.2.1
theorem yKp.f {Y Y' : MM} (h : yKp Y Y') : ∀ j, (j = 2 ∨ j = 15 ∨ j = 23 ∨ j = 26 ∨ (29 ≤ j ∧ j ≤ 32) ∨ j = 37 ∨ j = 41) → Y'.1 0 j = Y.1 0 j := h.2.2.2.2.2.2.2.2.1
theorem yKp.l5 {Y Y' : MM} (h : yKp Y Y') : ∀ i, i < 14 → Y'.2.1 5 i = Y.2.1 5 i := h.2.2.2.2.2.2.2.2.2.1
theorem yKp.l6 {Y Y' : MM} (h : yKp Y Y') : Y'.2.1 6 = Y.2.1 6 := h.2.2.2.2.2.2.2.2.2.2.1
theorem yKp.l20 {Y Y' : MM} (h : yKp Y Y') : Y'.2.1 20 = Y.2.1 20 := h.2.2.2.2.2.2.2.2.2.2.2
/-- the class's cells that matter -/
def xKp (X X' : MM) : Prop :=
  (X'.1 0 18 = X.1 0 18) ∧
  (∀ k, (k = 1 ∨ k = 2 ∨ (9 ≤ k ∧ k ≤ 18) ∨ (29 ≤ k ∧ k ≤ 37) ∨ (56 ≤ k ∧ k ≤ 133) ∨ k = 144 ∨ k = 145 ∨ k = 149 ∨ 152 ≤ k) → X'.1 k = X.1 k) ∧
  (X'.1 143 1 = X.1 143 1) ∧
  (∀ j, 5 ≤ j → X'.1 138 j = X.1 138 j) ∧
  (∀ k, (9 ≤ k ∧ k ≤ 18) ∨ 152 ≤ k → X'.2.1 k = X.2.1 k) ∧
  (∀ k, (56 ≤ k ∧ k ≤ 133) ∨ 152 ≤ k → X'.2.2 k = X.2.2 k) ∧
  ((∀ i, i < 40 → X.2.2 135 i < 24) → ∀ i, i < 40 → X'.2.2 135 i < 24)
theorem xKp.c0 {X X' : MM} (h : xKp X X') : X'.1 0 18 = X.1 0 18 := h.1
theorem xKp.c1 {X X' : MM} (h : xKp X X') : ∀ k, (k = 1 ∨ k = 2 ∨ (9 ≤ k ∧ k ≤ 18) ∨ (29 ≤ k ∧ k ≤ 37) ∨ (56 ≤ k ∧ k ≤ 133) ∨ k = 144 ∨ k = 145 ∨ k = 149 ∨ 152 ≤ k) → X'.1 k = X.1 k := h.2.1
theorem xKp.c2 {X X' : MM} (h : xKp X X') : X'.1 143 1 = X.1 143 1 := h.2.2.1
theorem xKp.c3 {X X' : MM} (h : xKp X X') : ∀ j, 5 ≤ j → X'.1 138 j = X.1 138 j := h.2.2.2.1
theorem xKp.l {X X' : MM} (h : xKp X X') : ∀ k, (9 ≤ k ∧ k ≤ 18) ∨ 152 ≤ k → X'.2.1 k = X.2.1 k := h.2.2.2.2.1
theorem xKp.r {X X' : MM} (h : xKp X X') : ∀ k, (56 ≤ k ∧ k ≤ 133) ∨ 152 ≤ k → X'.2.2 k = X.2.2 k := h.2.2.2.2.2.1
theorem xKp.w {X X' : MM} (h : xKp X X') : (∀ i, i < 40 → X.2.2 135 i < 24) → ∀ i, i < 40 → X'.2.2 135 i < 24 := h.2.2.2.2.2.2
theorem yKp.rf {Y : MM} : yKp Y Y := ⟨rfl, rfl, rfl, rfl, rfl, rfl, rfl, rfl, fun _ _ => rfl, fun _ _ => rfl, rfl, rfl⟩
theorem xKp.rf {X : MM} : xKp X X := ⟨rfl, fun _ _ => rfl, rfl, fun _ _ => rfl, fun _ _ => rfl, fun _ _ => rfl, fun h => h⟩
theorem yKp.tr {Y Y1 Y2 : MM} (a : yKp Y Y1) (b : yKp Y1 Y2) : yKp Y Y2 := ⟨b.tape.trans a.tape, b.a7.trans a.a7, b.a10.trans a.a10, b.a12.trans a.a12, b.a15.trans a.a15, b.a16.trans a.a16, b.a19.trans a.a19, b.a21.trans a.a21, fun j h => (b.f j h).trans (a.f j h), fun i hi => (b.l5 i hi).trans (a.l5 i hi), b.l6.trans a.l6, b.l20.trans a.l20⟩
theorem xKp.tr {X X1 X2 : MM} (a : xKp X X1) (b : xKp X1 X2) : xKp X X2 := ⟨b.c0.trans a.c0, fun k h => (b.c1 k h).trans (a.c1 k h), b.c2.trans a.c2, fun j h => (b.c3 j h).trans (a.c3 j h), fun k h => (b.l k h).trans (a.l k h), fun k h => (b.r k h).trans (a.r k h), fun h => b.w (a.w h)⟩
/-- scratch alone changed -/
theorem Inv.kp {X X' Y Y' : MM} {P N : Nat} (hX : xKp X X') (hY : yKp Y Y') (h2 : Y'.1 2 = Y.1 2) (h : Inv X Y P N) : Inv X' Y' P N := by
  refine ⟨by rw [h2]; exact h.ld, by rw [h2]; exact h.st, ?_, ?_, ?_, ?_, ?_, ?_, ?_, ?_, ?_, ?_, ?_, ?_, ?_⟩
  · rw [h2, ← rLo_9]; exact rLo_fr (fun k a b => hX.c1 k (by omega)) h.ld.2.1 h.ld.2.2.2.1 (fun _ _ => rfl) h.rl
  · rw [h2]; exact rSt_fr (fun k a b => hX.c1 k (by omega)) h.rs
  · exact rPast_fr (fun k a b => hX.c1 k (by omega)) (hX.r 57 (by omega)) hY.a7 (hY.f 23 (by omega)) h.pa
  · exact rNm_fr (hX.l _ (by omega)) (hX.l _ (by omega)) h.ld.2.1 h.ld.2.2.2.1 hY.l5 h.nm
  · rw [h2]; exact rSy_fr (hX.c1 _ (by omega)) (hX.r _ (by omega)) (hX.c1 _ (by omega)) (hX.c1 _ (by omega)) (fun _ _ => rfl) h.sy
  · exact rTp_fr (hX.c1 _ (by omega)) (hX.c1 _ (by omega)) (hY.f 2 (by omega)) hY.tape h.tp
  · rw [hX.c0, hY.f 15 (by omega)]; exact h.ft
  · exact rIm_fr (fun j hj => hX.c1 j (by omega)) (fun j hj => hX.l j (by omega)) (fun j hj => hX.r j (by omega)) hY.a19 hY.l20 hY.a21 h.im
  · exact rPl_fr hX.c2 (hX.c1 _ (by omega)) (hX.c1 _ (by omega)) (hY.f 26 (by omega)) hY.a10 (hY.f 29 (by omega)) hY.a12 h.pl
  · exact rFi_fr (hX.c1 _ (by omega)) (hY.f 32 (by omega)) (hY.f 30 (by omega)) (hY.f 31 (by omega)) h.fi
  · exact rNt_fr (hX.c1 _ (by omega)) (hX.c1 _ (by omega)) (hY.f 37 (by omega)) hY.a15 h.nt
  · exact rBk_fr hX.c3 (hY.f 41 (by omega)) hY.a16 h.bk
  · obtain ⟨a, b, c⟩ := h.rf
    refine ⟨fun k hk => ?_, fun i hi => ?_, fun k hk => ?_⟩
    · rw [hX.r 154 (by omega), hX.r 155 (by omega), hX.r 156 (by omega)]; exact a k hk
    · rw [hX.r 131 (by omega), hX.r 178 (by omega), hX.r 201 (by omega)]
      exact ⟨(b i hi).1, hX.w (fun i hi => (b i hi).2.1) i hi, (b i hi).2.2⟩
    · rw [hY.l6]; exact c k hk
theorem yKp.th {Y Y' : MM} {j : Nat} {v : Int32} (h : yKp Y Y') (hj : ¬ (j = 2 ∨ j = 15 ∨ j = 23 ∨ j = 26 ∨ (29 ≤ j ∧ j ≤ 32) ∨ j = 37 ∨ j = 41)) : yKp Y (mx_si Y' 0 j v) := by
  refine h.tr ⟨?_, ?_, ?_, ?_, ?_, ?_, ?_, ?_, fun i hi => ?_, fun _ _ => rfl, rfl, rfl⟩
  all_goals first | exact si_row (by omega) | exact si_nj (by intro e; subst e; exact hj hi)
theorem yKp.sc {Y Y' : MM} {k j : Nat} {v : Int32} (h : yKp Y Y') (hk : k = 2 ∨ k = 3 ∨ k = 4 ∨ k = 8 ∨ k = 9 ∨ k = 11 ∨ k = 13 ∨ k = 14 ∨ k = 17 ∨ k = 18) : yKp Y (mx_si Y' k j v) := by
  refine h.tr ⟨?_, ?_, ?_, ?_, ?_, ?_, ?_, ?_, fun i hi => ?_, fun _ _ => rfl, rfl, rfl⟩
  all_goals first | exact si_row (by omega) | exact si_nk (by omega)
/-- the query's end: the reference's flag of throwing -/
theorem Inv.th {X Y : MM} {P N : Nat} {v : Int32} (h : Inv X Y P N) : Inv X (mx_si Y 0 0 v) P N := Inv.kp xKp.rf (yKp.rf.th (by omega)) (si_row (by omega)) h
