/-! frames for the calls that take the tape -/
def yKq (Y Y' : MM) : Prop :=
  (Y'.1 2 = Y.1 2) ∧
  (Y'.1 7 = Y.1 7) ∧
  (Y'.1 10 = Y.1 10) ∧
  (Y'.1 12 = Y.1 12) ∧
  (Y'.1 15 = Y.1 15) ∧
  (Y'.1 19 = Y.1 19) ∧
  (Y'.1 21 = Y.1 21) ∧
  (∀ j, (j = 23 ∨ j = 26 ∨ j = 29 ∨ j = 37) → Y'.1 0 j = Y.1 0 j) ∧
  (∀ i, i < 14 → Y'.2.1 5 i = Y.2.1 5 i) ∧
  (Y'.2.1 6 = Y.2.1 6) ∧
  (Y'.2.1 20 = Y.2.1 20)
theorem yKq.a2 {Y Y' : MM} (h : yKq Y Y') : Y'.1 2 = Y.1 2 := h.1
theorem yKq.a7 {Y Y' : MM} (h : yKq Y Y') : Y'.1 7 = Y.1 7 := h.2.1
theorem yKq.a10 {Y Y' : MM} (h : yKq Y Y') : Y'.1 10 = Y.1 10 := h.2.2.1
theorem yKq.a12 {Y Y' : MM} (h : yKq Y Y') : Y'.1 12 = Y.1 12 := h.2.2.2.1
theorem yKq.a15 {Y Y' : MM} (h : yKq Y Y') : Y'.1 15 = Y.1 15 := h.2.2.2.2.1
theorem yKq.a19 {Y Y' : MM} (h : yKq Y Y') : Y'.1 19 = Y.1 19 := h.2.2.2.2.2.1
theorem yKq.a21 {Y Y' : MM} (h : yKq Y Y') : Y'.1 21 = Y.1 21 := h.2.2.2.2.2.2.1
theorem yKq.f {Y Y' : MM} (h : yKq Y Y') : ∀ j, (j = 23 ∨ j = 26 ∨ j = 29 ∨ j = 37) → Y'.1 0 j = Y.1 0 j := h.2.2.2.2.2.2.2.1
theorem yKq.l5 {Y Y' : MM} (h : yKq Y Y') : ∀ i, i < 14 → Y'.2.1 5 i = Y.2.1 5 i := h.2.2.2.2.2.2.2.2.1
theorem yKq.l6 {Y Y' : MM} (h : yKq Y Y') : Y'.2.1 6 = Y.2.1 6 := h.2.2.2.2.2.2.2.2.2.1
theorem yKq.l20 {Y Y' : MM} (h : yKq Y Y') : Y'.2.1 20 = Y.2.1 20 := h.2.2.2.2.2.2.2.2.2.2
def xKq (X X' : MM) : Prop :=
  (∀ k, ((9 ≤ k ∧ k ≤ 18) ∨ (29 ≤ k ∧ k ≤ 37) ∨ (56 ≤ k ∧ k ≤ 133) ∨ k = 144 ∨ k = 145 ∨ 152 ≤ k) → X'.1 k = X.1 k) ∧
  (X'.1 143 1 = X.1 143 1) ∧
  (∀ k, (9 ≤ k ∧ k ≤ 18) ∨ 152 ≤ k → X'.2.1 k = X.2.1 k) ∧
  (∀ k, (56 ≤ k ∧ k ≤ 133) ∨ 152 ≤ k → X'.2.2 k = X.2.2 k) ∧
  ((∀ i, i < 40 → X.2.2 135 i < 24) → ∀ i, i < 40 → X'.2.2 135 i < 24)
theorem xKq.c1 {X X' : MM} (h : xKq X X') : ∀ k, ((9 ≤ k ∧ k ≤ 18) ∨ (29 ≤ k ∧ k ≤ 37) ∨ (56 ≤ k ∧ k ≤ 133) ∨ k = 144 ∨ k = 145 ∨ 152 ≤ k) → X'.1 k = X.1 k := h.1
theorem xKq.c2 {X X' : MM} (h : xKq X X') : X'.1 143 1 = X.1 143 1 := h.2.1
theorem xKq.l {X X' : MM} (h : xKq X X') : ∀ k, (9 ≤ k ∧ k ≤ 18) ∨ 152 ≤ k → X'.2.1 k = X.2.1 k := h.2.2.1
theorem xKq.r {X X' : MM} (h : xKq X X') : ∀ k, (56 ≤ k ∧ k ≤ 133) ∨ 152 ≤ k → X'.2.2 k = X.2.2 k := h.2.2.2.1
theorem xKq.w {X X' : MM} (h : xKq X X') : (∀ i, i < 40 → X.2.2 135 i < 24) → ∀ i, i < 40 → X'.2.2 135 i < 24 := h.2.2.2.2
theorem yKq.rf {Y : MM} : yKq Y Y := ⟨rfl, rfl, rfl, rfl, rfl, rfl, rfl, fun _ _ => rfl, fun _ _ => rfl, rfl, rfl⟩
theorem xKq.rf {X : MM} : xKq X X := ⟨fun _ _ => rfl, rfl, fun _ _ => rfl, fun _ _ => rfl, fun h => h⟩
theorem yKq.tr {Y Y1 Y2 : MM} (a : yKq Y Y1) (b : yKq Y1 Y2) : yKq Y Y2 := ⟨b.a2.trans a.a2, b.a7.trans a.a7, b.a10.trans a.a10, b.a12.trans a.a12, b.a15.trans a.a15, b.a19.trans a.a19, b.a21.trans a.a21, fun j h => (b.f j h).trans (a.f j h), fun i hi => (b.l5 i hi).trans (a.l5 i hi), b.l6.trans a.l6, b.l20.trans a.l20⟩
theorem xKq.tr {X X1 X2 : MM} (a : xKq X X1) (b : xKq X1 X2) : xKq X X2 := ⟨fun k h => (b.c1 k h).trans (a.c1 k h), b.c2.trans a.c2, fun k h => (b.l k h).trans (a.l k h), fun k h => (b.r k h).trans (a.r k h), fun h => b.w (a.w h)⟩
theorem yKq.si {Y Y' : MM} {k j : Nat} {v : Int32} (h : yKq Y Y') (hk : (k = 0 ∧ ¬ (j = 23 ∨ j = 26 ∨ j = 29 ∨ j = 37)) ∨ k = 1 ∨ k = 3 ∨ k = 4 ∨ k = 8 ∨ k = 9 ∨ k = 11 ∨ k = 13 ∨ k = 14 ∨ k = 16 ∨ k = 17 ∨ k = 18) : yKq Y (mx_si Y' k j v) := by
  refine h.tr ⟨si_row (by omega), si_row (by omega), si_row (by omega), si_row (by omega), si_row (by omega), si_row (by omega), si_row (by omega), fun i hi => ?_, fun _ _ => rfl, rfl, rfl⟩
  by_cases e : k = 0
  · subst e; exact si_nj (by omega)
  · exact si_nk (by omega)
theorem yKq.sl {Y Y' : MM} {k j : Nat} {v : Int64} (h : yKq Y Y') (hk : k = 0 ∨ (k = 5 ∧ 14 ≤ j)) : yKq Y (mx_sl Y' k j v) := by
  refine h.tr ⟨rfl, rfl, rfl, rfl, rfl, rfl, rfl, fun _ _ => rfl, fun i hi => ?_, ?_, ?_⟩
  · show (if _ then _ else _) = _
    rw [if_neg (by omega)]
  · funext b
    show (if _ then _ else _) = _
    rw [if_neg (by omega)]
  · funext b
    show (if _ then _ else _) = _
    rw [if_neg (by omega)]
theorem xKq.si {X X' : MM} {k j : Nat} {v : Int32} (h : xKq X X') (hk : k ≤ 8 ∨ (19 ≤ k ∧ k ≤ 28) ∨ (38 ≤ k ∧ k ≤ 55) ∨ (134 ≤ k ∧ k ≤ 142) ∨ (k = 143 ∧ j ≠ 1) ∨ (146 ≤ k ∧ k ≤ 151)) : xKq X (mx_si X' k j v) := by
  refine h.tr ⟨fun a ha => si_row (by omega), ?_, fun _ _ => rfl, fun _ _ => rfl, fun h => h⟩
  by_cases e : k = 143
  · subst e; exact si_nj (by omega)
  · exact si_nk (by omega)
theorem xKq.sl {X X' : MM} {k j : Nat} {v : Int64} (h : xKq X X') (hk : k ≤ 8 ∨ (19 ≤ k ∧ k ≤ 28)) : xKq X (mx_sl X' k j v) := by
  refine h.tr ⟨fun _ _ => rfl, rfl, fun a ha => ?_, fun _ _ => rfl, fun h => h⟩
  funext b
  show (if _ then _ else _) = _
  rw [if_neg (by omega)]
theorem xKq.sr {X X' : MM} {k j v : Nat} (h : xKq X X') (hk : k ≤ 8 ∨ (k = 135 ∧ v < 24)) : xKq X (mx_sr X' k j v) := by
  refine h.tr ⟨fun _ _ => rfl, rfl, fun _ _ => rfl, fun a ha => ?_, fun h i hi => ?_⟩
  · funext b
    show (if _ then _ else _) = _
    rw [if_neg (by omega)]
  · show (if _ then _ else _) < 24
    split
    · omega
    · exact h i hi
theorem Inv.gen {X X' Y Y' : MM} {P N : Nat} (hX : xKq X X') (hY : yKq Y Y') (h : Inv X Y P N) (tp : rTp X' Y') (ft : X'.1 0 18 = Y'.1 0 15) (fi : rFi X' Y') (bk : rBk X' Y') : Inv X' Y' P N := by
  have h2 := hY.a2
  refine ⟨by rw [h2]; exact h.ld, by rw [h2]; exact h.st, ?_, ?_, ?_, ?_, ?_, tp, ft, ?_, ?_, fi, ?_, bk, ?_⟩
  · rw [h2, ← rLo_9]; exact rLo_fr (fun k a b => hX.c1 k (by omega)) h.ld.2.1 h.ld.2.2.2.1 (fun _ _ => rfl) h.rl
  · rw [h2]; exact rSt_fr (fun k a b => hX.c1 k (by omega)) h.rs
  · exact rPast_fr (fun k a b => hX.c1 k (by omega)) (hX.r 57 (by omega)) hY.a7 (hY.f 23 (by omega)) h.pa
  · exact rNm_fr (hX.l _ (by omega)) (hX.l _ (by omega)) h.ld.2.1 h.ld.2.2.2.1 hY.l5 h.nm
  · rw [h2]; exact rSy_fr (hX.c1 _ (by omega)) (hX.r _ (by omega)) (hX.c1 _ (by omega)) (hX.c1 _ (by omega)) (fun _ _ => rfl) h.sy
  · exact rIm_fr (fun j hj => hX.c1 j (by omega)) (fun j hj => hX.l j (by omega)) (fun j hj => hX.r j (by omega)) hY.a19 hY.l20 hY.a21 h.im
  · exact rPl_fr hX.c2 (hX.c1 _ (by omega)) (hX.c1 _ (by omega)) (hY.f 26 (by omega)) hY.a10 (hY.f 29 (by omega)) hY.a12 h.pl
  · exact rNt_fr (hX.c1 _ (by omega)) (hX.c1 _ (by omega)) (hY.f 37 (by omega)) hY.a15 h.nt
  · obtain ⟨a, b, c⟩ := h.rf
    refine ⟨fun k hk => ?_, fun i hi => ?_, fun k hk => ?_⟩
    · rw [hX.r 154 (by omega), hX.r 155 (by omega), hX.r 156 (by omega)]; exact a k hk
    · rw [hX.r 131 (by omega), hX.r 178 (by omega), hX.r 201 (by omega)]
      exact ⟨(b i hi).1, hX.w (fun i hi => (b i hi).2.1) i hi, (b i hi).2.2⟩
    · rw [hY.l6]; exact c k hk
/-! a loop that leaves at the first that is so -/
theorem loop_fstN {ρ : Type} {F : Nat → Nat → Option ρ} {f : Nat → Bool} {N : Nat} {fin : Nat → Option ρ} (h0 : ∀ n, F (n + 1) N = fin N) (hs : ∀ n k, k < N → F (n + 1) k = if f k then fin k else F n (k + 1)) :
    ∀ c k n, k + c = N → c < n → F n k = fin (pfst f k c) := by
  intro c
  induction c with
  | zero =>
    intro k n hk hn
    obtain ⟨n, rfl⟩ : ∃ z, n = z + 1 := ⟨n - 1, by omega⟩
    have hk : k = N := by omega
    subst hk
    exact h0 n
  | succ c ih =>
    intro k n hk hn
    obtain ⟨n, rfl⟩ : ∃ z, n = z + 1 := ⟨n - 1, by omega⟩
    rw [hs n k (by omega), pfst]
    split
    · rfl
    · exact ih (k + 1) n (by omega) (by omega)
theorem pfst_all (f : Nat → Bool) : ∀ c k, pfst f k c = k + c ↔ ∀ j, k ≤ j → j < k + c → f j = false := by
  intro c
  induction c with
  | zero => intro k; exact ⟨fun _ j h1 h2 => by omega, fun _ => rfl⟩
  | succ c ih =>
    intro k
    rw [pfst]
    by_cases hk : f k = true
    · rw [if_pos hk]
      exact ⟨fun h => by omega, fun h => by rw [h k (Nat.le_refl _) (by omega)] at hk; cases hk⟩
    · rw [if_neg hk, show k + (c + 1) = k + 1 + c by omega, ih (k + 1)]
      constructor
      · intro h j h1 h2
        by_cases e : j = k
        · subst e; simpa using hk
        · exact h j (by omega) h2
      · intro h j h1 h2
        exact h j (by omega) h2
