/-! images -/
theorem cpl_eq {M : MM} {a b n j : Nat} (h : j < n) : (mx_cpl M a b n).2.1 b j = M.2.1 a j := by simp [mx_cpl, h]
theorem cpl_nk {M : MM} {a b n k j : Nat} (h : k ≠ b) : (mx_cpl M a b n).2.1 k j = M.2.1 k j := by simp [mx_cpl, h]
theorem cpl_i {M : MM} {a b n k j : Nat} : (mx_cpl M a b n).1 k j = M.1 k j := rfl
theorem cpi_l {M : MM} {a b n k j : Nat} : (mx_cpi M a b n).2.1 k j = M.2.1 k j := rfl
theorem si_l {M : MM} {a b k j : Nat} {v : Int32} : (mx_si M a b v).2.1 k j = M.2.1 k j := rfl
theorem cpl_r {M : MM} {a b n : Nat} : (mx_cpl M a b n).2.2 = M.2.2 := rfl
theorem cpi_r {M : MM} {a b n : Nat} : (mx_cpi M a b n).2.2 = M.2.2 := rfl
theorem si_r {M : MM} {a b : Nat} {v : Int32} : (mx_si M a b v).2.2 = M.2.2 := rfl
theorem x_copyLd {o o1 : Nat} {X : MM} (hd : o1 + 9 < o ∨ o + 9 < o1) : ∃ X', fX3_copyFrom o o1 X = some X' ∧ (∀ k, (k < o ∨ o + 9 < k) → X'.1 k = X.1 k) ∧ (∀ k, (k < o ∨ o + 9 < k) → X'.2.1 k = X.2.1 k) ∧ X'.2.2 = X.2.2 ∧ X'.1 o 14 = X.1 o1 14 ∧ (∀ (S : Nat → Int32) (P N : Nat), P ≤ 7 → N ≤ 7 → rLo o1 X S P N → rLo o X' S P N) ∧ ∀ (R : Nat → Int64) (P N : Nat), P ≤ 7 → N ≤ 7 → rNm o1 X R P N → rNm o X' R P N := by
  refine ⟨_, rfl, fun k hk => ?_, fun k hk => ?_, rfl, ?_, fun S P N hP hN hR => ?_, fun R P N hP hN hR => ?_⟩
  · funext j
    simp (disch := omega) only [si_nk, cpi_nk, cpl_i]
  · funext j
    simp (disch := omega) only [cpl_nk, cpi_l, si_l]
  · simp (disch := omega) only [si_eq, si_nj, si_nk, cpi_nk, cpl_i]
  · obtain ⟨a1, a2, a3, a4, a5, a6, a7⟩ := hR
    refine ⟨?_, ?_, ?_, ?_, ?_, fun p hp => ?_, fun r hr => ?_⟩
    · simp (disch := omega) only [si_eq, si_nj, si_nk, cpi_nk, cpl_i]; exact a1
    · simp (disch := omega) only [si_eq, si_nj, si_nk, cpi_nk, cpl_i]; exact a2
    · simp (disch := omega) only [si_eq, si_nj, si_nk, cpi_nk, cpl_i]; exact a3
    · simp (disch := omega) only [si_eq, si_nj, si_nk, cpi_nk, cpl_i]; exact a4
    · simp (disch := omega) only [si_eq, si_nj, si_nk, cpi_nk, cpl_i]; exact a5
    · simp (disch := omega) only [si_nk, cpi_nk, cpi_eq, cpl_i]; exact a6 p hp
    · simp (disch := omega) only [si_nk, cpi_nk, cpi_eq, cpl_i]; exact a7 r hr
  · obtain ⟨a1, a2⟩ := hR
    refine ⟨fun p hp => ?_, fun r hr => ?_⟩
    · simp (disch := omega) only [cpl_nk, cpl_eq, cpi_l, si_l]; exact a1 p hp
    · simp (disch := omega) only [cpl_nk, cpl_eq, cpi_l, si_l]; exact a2 r hr
def cprK (M : MM) (a b k : Nat) : MM := (M.1, M.2.1, fun c j => if c = b ∧ j < k then M.2.2 a j else M.2.2 c j)
theorem cprK_s {M : MM} {a b k : Nat} (h : a ≠ b) : mx_sr (cprK M a b k) b k ((cprK M a b k).2.2 a k) = cprK M a b (k + 1) := by
  unfold mx_sr cprK
  refine Prod.ext rfl (Prod.ext rfl ?_)
  funext c j
  simp only [h, false_and, ↓reduceIte]
  by_cases h1 : c = b <;> by_cases h2 : j = k
  · subst h2; simp [h1]
  · have : (j < k + 1) = (j < k) := by apply propext; omega
    simp [h1, h2, this]
  · simp [h1]
  · simp [h1]
theorem x_copySy {o o1 : Nat} {X : MM} (hd : o1 + 3 < o ∨ o + 3 < o1) (hw : ∀ i, i < 40 → X.2.2 (o1 + 1) i < 24) : ∃ X', fX8_copyFrom o o1 X = some X' ∧ (∀ k, (k < o ∨ o + 3 < k) → X'.1 k = X.1 k) ∧ X'.2.1 = X.2.1 ∧ (∀ k, k ≠ o + 1 → X'.2.2 k = X.2.2 k) ∧ (∀ i, i < 40 → X'.2.2 (o + 1) i < 24) ∧ X'.1 o 4 = X.1 o1 4 ∧ ∀ (S : Nat → Int32) (P N : Nat), rSy o1 X S P N → rSy o X' S P N := by
  have key : ∀ (M : MM), (∀ i, i < 40 → M.2.2 (o1 + 1) i < 24) → ∀ c k n, k + c = 40 → c < n → fX8_copyFrom_18 o o1 n (nI k) (cprK M (o1 + 1) (o + 1) k) = some (mx_cpi (mx_cpi (cprK M (o1 + 1) (o + 1) 40) (o1 + 2) (o + 2) 40) (o1 + 3) (o + 3) 40) := by
    intro M hM c
    induction c with
    | zero =>
      intro k n hk hn
      obtain ⟨n, rfl⟩ : ∃ z, n = z + 1 := ⟨n - 1, by omega⟩
      have : k = 40 := by omega
      subst this
      rw [fX8_copyFrom_18, c40, if_pos (nI_le (by omega) (by omega))]
    | succ c ih =>
      intro k n hk hn
      obtain ⟨n, rfl⟩ : ∃ z, n = z + 1 := ⟨n - 1, by omega⟩
      have e : (cprK M (o1 + 1) (o + 1) k).2.2 (o1 + 1) k = M.2.2 (o1 + 1) k := by
        show (if _ then _ else _) = _
        rw [if_neg (by omega)]
      rw [fX8_copyFrom_18, c40, if_neg (nI_ge (by omega) (by omega)), pb_gd (by omega) (by omega), pb_gd (by omega) (by omega), nI_clamp (by omega), if_pos (by rw [e]; exact hM k (by omega)), cprK_s (by omega), nI_1]
      exact ih (k + 1) n (by omega) (by omega)
  have k0 := key (mx_si (mx_si X o 3 (X.1 o1 3)) o 4 ((mx_si X o 3 (X.1 o1 3)).1 o1 4)) hw 40 0 mx_fu (by omega) (by unfold mx_fu; omega)
  have e0 : ∀ M : MM, cprK M (o1 + 1) (o + 1) 0 = M := fun M => by
    unfold cprK
    refine Prod.ext rfl (Prod.ext rfl ?_)
    funext c j
    simp
  rw [e0, nI_0] at k0
  refine ⟨_, k0, fun k hk => ?_, rfl, fun k hk => ?_, fun i hi => ?_, ?_, fun S P N h => ?_⟩
  · funext j
    rw [cpi_nk (by omega), cpi_nk (by omega)]
    show (mx_si (mx_si X o 3 (X.1 o1 3)) o 4 ((mx_si X o 3 (X.1 o1 3)).1 o1 4)).1 k j = _
    rw [si_nk (by omega), si_nk (by omega)]
  · funext j
    show (if _ then _ else _) = _
    rw [if_neg (by omega)]
    rfl
  · show (if _ then _ else _) < 24
    rw [if_pos ⟨rfl, hi⟩]
    exact hw i hi
  · rw [cpi_nk (by omega), cpi_nk (by omega)]
    show (mx_si (mx_si X o 3 (X.1 o1 3)) o 4 ((mx_si X o 3 (X.1 o1 3)).1 o1 4)).1 o 4 = _
    rw [si_eq, si_nk (by omega)]
  · obtain ⟨n, ones, a1, a2, a3, a4, a5, a6, a7, a8⟩ := h
    refine ⟨n, ones, a1, ?_, a3, ?_, a5, a6, a7, fun i hi => ?_⟩
    · rw [cpi_nk (by omega), cpi_nk (by omega)]
      show (mx_si (mx_si X o 3 (X.1 o1 3)) o 4 ((mx_si X o 3 (X.1 o1 3)).1 o1 4)).1 o 3 = _
      rw [si_nj (by omega), si_eq]; exact a2
    · rw [cpi_nk (by omega), cpi_nk (by omega)]
      show (mx_si (mx_si X o 3 (X.1 o1 3)) o 4 ((mx_si X o 3 (X.1 o1 3)).1 o1 4)).1 o 4 = _
      rw [si_eq, si_nk (by omega)]; exact a4
    · have f1 : ∀ j, (cprK (mx_si (mx_si X o 3 (X.1 o1 3)) o 4 ((mx_si X o 3 (X.1 o1 3)).1 o1 4)) (o1 + 1) (o + 1) 40).1 (o1 + 2) j = X.1 (o1 + 2) j := fun j => by
        show (mx_si (mx_si X o 3 (X.1 o1 3)) o 4 ((mx_si X o 3 (X.1 o1 3)).1 o1 4)).1 _ _ = _
        rw [si_nk (by omega), si_nk (by omega)]
      have f2 : ∀ j, (cprK (mx_si (mx_si X o 3 (X.1 o1 3)) o 4 ((mx_si X o 3 (X.1 o1 3)).1 o1 4)) (o1 + 1) (o + 1) 40).1 (o1 + 3) j = X.1 (o1 + 3) j := fun j => by
        show (mx_si (mx_si X o 3 (X.1 o1 3)) o 4 ((mx_si X o 3 (X.1 o1 3)).1 o1 4)).1 _ _ = _
        rw [si_nk (by omega), si_nk (by omega)]
      rw [cpi_nk (by omega), cpi_eq (by omega), cpi_eq (by omega), cpi_nk (by omega), f1, f2]
      have f3 : (mx_cpi (mx_cpi (cprK (mx_si (mx_si X o 3 (X.1 o1 3)) o 4 ((mx_si X o 3 (X.1 o1 3)).1 o1 4)) (o1 + 1) (o + 1) 40) (o1 + 2) (o + 2) 40) (o1 + 3) (o + 3) 40).2.2 (o + 1) i = X.2.2 (o1 + 1) i := by
        show (if _ then _ else _) = _
        rw [if_pos ⟨rfl, by omega⟩]
        rfl
      rw [f3]
      exact a8 i hi
/-! island, state, sentence and names together -/
theorem sDp_congr2 {S S' : Nat → Int32} (h : ∀ i, 113 ≤ i → i < 294 → S' i = S i) : ∀ n, n ≤ 40 → sDp S' n = sDp S n := by
  intro n
  induction n with
  | zero => intro _; rfl
  | succ n ih => intro hn; rw [sDp, sDp, ih (by omega), h (114 + 3 * n) (by omega) (by omega)]
theorem rSy_S {o P N : Nat} {X : MM} {S S' : Nat → Int32} (hS : ∀ i, 113 ≤ i → i < 294 → S' i = S i) (h : rSy o X S P N) : rSy o X S' P N := by
  obtain ⟨n, ones, a1, a2, a3, a4, a5, a6, a7, a8⟩ := h
  refine ⟨n, ones, a1, a2, by rw [hS 113 (by omega) (by omega)]; exact a3, a4, a5, a6, by rw [sDp_congr2 hS n a1]; exact a7, fun i hi => ?_⟩
  rw [hS _ (by omega) (by omega), hS _ (by omega) (by omega), hS _ (by omega) (by omega)]
  exact a8 i hi
def rAll (o s n : Nat) (X : MM) (S : Nat → Int32) (R : Nat → Int64) (P N : Nat) : Prop := wLd S P N ∧ wSt S P N ∧ rLo o X S P N ∧ rSt s X S P N ∧ rSy n X S P N ∧ rNm o X R P N
theorem rAll_S {o s n P N : Nat} {X : MM} {S S' : Nat → Int32} {R R' : Nat → Int64} (hS : ∀ i, i < 294 → S' i = S i) (hR : ∀ i, i < 14 → R' i = R i) (h : rAll o s n X S R P N) : rAll o s n X S' R' P N := by
  obtain ⟨h1, h2, h3, h4, h5, h6⟩ := h
  have hP := h1.2.1
  have hN := h1.2.2.2.1
  exact ⟨wLd_same (fun i hi => hS i (by omega)) h1, wSt_congr hP hN (fun i _ hi => hS i (by omega)) h2, rLo_fr (fun _ _ _ => rfl) hP hN (fun i hi => hS i (by omega)) h3, rSt_congr hP hN (fun i _ hi => hS i (by omega)) h4, rSy_S (fun i _ hi => hS i hi) h5, rNm_fr rfl rfl hP hN hR h6⟩
theorem rAll_X {o s n P N : Nat} {X X' : MM} {S : Nat → Int32} {R : Nat → Int64} (h1 : ∀ k, (o ≤ k ∧ k ≤ o + 9) ∨ (s ≤ k ∧ k ≤ s + 8) ∨ (n ≤ k ∧ k ≤ n + 3) → X'.1 k = X.1 k) (h2 : ∀ k, o ≤ k → k ≤ o + 9 → X'.2.1 k = X.2.1 k) (h3 : X'.2.2 (n + 1) = X.2.2 (n + 1)) (h : rAll o s n X S R P N) : rAll o s n X' S R P N := by
  obtain ⟨a1, a2, a3, a4, a5, a6⟩ := h
  have hP := a1.2.1
  have hN := a1.2.2.2.1
  exact ⟨a1, a2, rLo_fr (fun k k1 k2 => h1 k (by omega)) hP hN (fun _ _ => rfl) a3, rSt_fr (fun k k1 k2 => h1 k (by omega)) a4, rSy_fr (h1 _ (by omega)) h3 (h1 _ (by omega)) (h1 _ (by omega)) (fun _ _ => rfl) a5, rNm_fr (h2 _ (by omega) (by omega)) (h2 _ (by omega) (by omega)) hP hN (fun _ _ => rfl) a6⟩
theorem Inv.all {X Y : MM} {P N : Nat} (h : Inv X Y P N) : rAll 9 29 130 X (Y.1 2) (Y.2.1 5) P N := ⟨h.ld, h.st, h.rl, h.rs, h.sy, h.nm⟩
/-- all three copied -/
theorem x_copyAll {o s n o1 s1 n1 : Nat} {X : MM} (h1 : o1 + 9 < o ∨ o + 9 < o1) (h2 : s1 + 8 < s ∨ s + 8 < s1) (h3 : n1 + 3 < n ∨ n + 3 < n1) (hw : ∀ i, i < 40 → X.2.2 (n1 + 1) i < 24) (f1 : (s1 + 8 < o ∨ o + 9 < s1) ∧ (n1 + 3 < o ∨ o + 9 < n1) ∧ (n1 + 3 < s ∨ s + 8 < n1)) (f2 : o + 9 < s ∧ s + 8 < n) :
    ∃ X1 X2 X3, fX3_copyFrom o o1 X = some X1 ∧ fX9_copyFrom s s1 X1 = some X2 ∧ fX8_copyFrom n n1 X2 = some X3 ∧ X1.2.2 = X.2.2 ∧ X2.2.2 = X.2.2 ∧ (∀ k, ¬ (o ≤ k ∧ k ≤ o + 9) → ¬ (s ≤ k ∧ k ≤ s + 8) → ¬ (n ≤ k ∧ k ≤ n + 3) → X3.1 k = X.1 k) ∧ (∀ k, ¬ (o ≤ k ∧ k ≤ o + 9) → X3.2.1 k = X.2.1 k) ∧ (∀ k, k ≠ n + 1 → X3.2.2 k = X.2.2 k) ∧ (∀ i, i < 40 → X3.2.2 (n + 1) i < 24) ∧ ∀ (S : Nat → Int32) (R : Nat → Int64) (P N : Nat), rAll o1 s1 n1 X S R P N → rAll o s n X3 S R P N := by
  obtain ⟨X1, a1, a2, a3, a4, -, a5, a6⟩ := x_copyLd (X := X) h1
  obtain ⟨X2, b1, b2, b3⟩ := x_copySt (X := X1) h2
  obtain ⟨X3, c1, c2, c3, c4, c5, -, c6⟩ := x_copySy (X := X2) h3 (fun i hi => by rw [b2.2, a4]; exact hw i hi)
  refine ⟨X1, X2, X3, a1, b1, c1, a4, by rw [b2.2, a4], fun k k1 k2 k3 => ?_, fun k hk => ?_, fun k hk => ?_, c5, fun S R P N h => ?_⟩
  · rw [c2 k (by omega), b2.1 k (by omega), a2 k (by omega)]
  · rw [c3, b2.2, a3 k (by omega)]
  · rw [c4 k hk, b2.2, a4]
  · obtain ⟨r1, r2, r3, r4, r5, r6⟩ := h
    have hP := r1.2.1
    have hN := r1.2.2.2.1
    refine ⟨r1, r2, ?_, ?_, ?_, ?_⟩
    · exact rLo_fr (X := X1) (fun k k1 k2 => by rw [c2 k (by omega), b2.1 k (by omega)]) hP hN (fun _ _ => rfl) (a5 S P N hP hN r3)
    · exact rSt_fr (X := X2) (fun k k1 k2 => by rw [c2 k (by omega)]) (b3 S P N hP hN (rSt_fr (X := X) (fun k k1 k2 => a2 k (by omega)) r4))
    · refine c6 S P N (rSy_fr (X := X) ?_ ?_ ?_ ?_ (fun _ _ => rfl) r5)
      · rw [b2.1 _ (by omega), a2 _ (by omega)]
      · rw [b2.2, a4]
      · rw [b2.1 _ (by omega), a2 _ (by omega)]
      · rw [b2.1 _ (by omega), a2 _ (by omega)]
    · exact rNm_fr (X := X1) (by rw [c3, b2.2]) (by rw [c3, b2.2]) hP hN (fun _ _ => rfl) (a6 R P N hP hN r6)
def cpL (Y : MM) (c : Nat) (f : Nat → Int64) (b n : Nat) : MM := (Y.1, fun a j => if a = c ∧ b ≤ j ∧ j < b + n then f (j - b) else Y.2.1 a j, Y.2.2)
theorem cpL_0 {Y : MM} {c b : Nat} {f : Nat → Int64} : cpL Y c f b 0 = Y := by
  unfold cpL
  refine Prod.ext rfl (Prod.ext ?_ rfl)
  funext a j
  have : ¬ (a = c ∧ b ≤ j ∧ j < b + 0) := by omega
  show (if _ then _ else _) = _
  rw [if_neg this]
theorem cpL_s {Y : MM} {c b k : Nat} {f : Nat → Int64} : mx_sl (cpL Y c f b k) c (b + k) (f k) = cpL Y c f b (k + 1) := by
  unfold cpL mx_sl
  refine Prod.ext rfl (Prod.ext ?_ rfl)
  funext a j
  show (if _ then _ else if _ then _ else _) = (if _ then _ else _)
  by_cases h1 : a = c ∧ j = b + k
  · rw [if_pos h1, if_pos (by omega)]
    congr 1; omega
  · rw [if_neg h1]
    by_cases h2 : a = c ∧ b ≤ j ∧ j < b + k
    · rw [if_pos h2, if_pos (by omega)]
    · rw [if_neg h2, if_neg (by omega)]
theorem cpL_1 {Y : MM} {c b n : Nat} {f : Nat → Int64} : (cpL Y c f b n).1 = Y.1 := rfl
theorem cpL_n {Y : MM} {c b n a : Nat} {f : Nat → Int64} (h : a ≠ c) : (cpL Y c f b n).2.1 a = Y.2.1 a := by funext j; simp [cpL, h]
theorem cpL_in {Y : MM} {c b n j : Nat} {f : Nat → Int64} (h : j < n) : (cpL Y c f b n).2.1 c (b + j) = f j := by
  show (if _ then _ else _) = _
  rw [if_pos (by omega)]; congr 1; omega
theorem cpL_out {Y : MM} {c b n j : Nat} {f : Nat → Int64} (h : j < b ∨ b + n ≤ j) : (cpL Y c f b n).2.1 c j = Y.2.1 c j := by
  show (if _ then _ else _) = _
  rw [if_neg (by omega)]
theorem m_im51 {k : Nat} (hk : k < 2) (M : MM) : ∀ c i n, i + c = 14 → c < n → fX13_image_51 (nI k) n (nI i) (cpL M 20 (M.2.1 5) (14 * k) i) = some (true, mx_si (cpL M 20 (M.2.1 5) (14 * k) 14) 21 k 1) := by
  intro c
  induction c with
  | zero =>
    intro i n hi hn
    obtain ⟨n, rfl⟩ : ∃ z, n = z + 1 := ⟨n - 1, by omega⟩
    have : i = 14 := by omega
    subst this
    rw [fX13_image_51, c14, if_pos (nI_le (by omega) (by omega)), pb_gd (by omega) (by omega), nI_clamp (by omega)]
    rfl
  | succ c ih =>
    intro i n hi hn
    obtain ⟨n, rfl⟩ : ∃ z, n = z + 1 := ⟨n - 1, by omega⟩
    rw [fX13_image_51, c14, if_neg (nI_ge (by omega) (by omega)), pb_gd (by omega) (by omega), nI_mul, nI_add, pb_gd (by omega) (by omega), nI_clamp (by omega), nI_clamp (by omega), cpL_n (by omega), cpL_s, nI_1]
    exact ih (i + 1) n (by omega) (by omega)
theorem m_im18 {k : Nat} (hk : k < 2) (M : MM) : ∀ c i n, i + c = 294 → c < n → fX13_image_18 (nI k) n (nI i) (cpR M 19 (M.1 2) (294 * k) i) = fX13_image_51 (nI k) mx_fu 0 (cpR M 19 (M.1 2) (294 * k) 294) := by
  intro c
  induction c with
  | zero =>
    intro i n hi hn
    obtain ⟨n, rfl⟩ : ∃ z, n = z + 1 := ⟨n - 1, by omega⟩
    have : i = 294 := by omega
    subst this
    rw [fX13_image_18, c294, if_pos (nI_le (by omega) (by omega))]
  | succ c ih =>
    intro i n hi hn
    obtain ⟨n, rfl⟩ : ∃ z, n = z + 1 := ⟨n - 1, by omega⟩
    rw [fX13_image_18, c294, if_neg (nI_ge (by omega) (by omega)), pb_gd (by omega) (by omega), nI_mul, nI_add, pb_gd (by omega) (by omega), nI_clamp (by omega), nI_clamp (by omega), cpR_n (by omega), cpR_s, nI_1]
    exact ih (i + 1) n (by omega) (by omega)
theorem m_image {k : Nat} (hk : k < 2) (M : MM) : fX13_image_18 (nI k) mx_fu 0 M = some (true, mx_si (cpL (cpR M 19 (M.1 2) (294 * k) 294) 20 (M.2.1 5) (14 * k) 14) 21 k 1) := by
  have h1 := m_im18 hk M 294 0 mx_fu (by omega) (by unfold mx_fu; omega)
  rw [cpR_0, nI_0] at h1
  have h2 := m_im51 hk (cpR M 19 (M.1 2) (294 * k) 294) 14 0 mx_fu (by omega) (by unfold mx_fu; omega)
  rw [cpL_0, nI_0] at h2
  rw [h1, h2]
  rfl
theorem m_re60 {k : Nat} (hk : k < 2) (M : MM) : ∀ c i n, i + c = 14 → c < n → fX13_restore_60 (nI k) n (nI i) (cpL M 5 (imR M k) 0 i) = some (true, mx_si (cpL M 5 (imR M k) 0 14) 0 23 0) := by
  intro c
  induction c with
  | zero =>
    intro i n hi hn
    obtain ⟨n, rfl⟩ : ∃ z, n = z + 1 := ⟨n - 1, by omega⟩
    have : i = 14 := by omega
    subst this
    rw [fX13_restore_60, c14, if_pos (nI_le (by omega) (by omega))]
  | succ c ih =>
    intro i n hi hn
    obtain ⟨n, rfl⟩ : ∃ z, n = z + 1 := ⟨n - 1, by omega⟩
    have e := cpL_s (Y := M) (c := 5) (b := 0) (k := i) (f := imR M k)
    rw [Nat.zero_add] at e
    have e2 : imR M k i = M.2.1 20 (14 * k + i) := rfl
    rw [e2] at e
    rw [fX13_restore_60, c14, if_neg (nI_ge (by omega) (by omega)), nI_mul, nI_add, pb_gd (by omega) (by omega), pb_gd (by omega) (by omega), nI_clamp (by omega), nI_clamp (by omega), cpL_n (by omega), e, nI_1]
    exact ih (i + 1) n (by omega) (by omega)
theorem m_re27 {k : Nat} (hk : k < 2) (M : MM) : ∀ c i n, i + c = 294 → c < n → fX13_restore_27 (nI k) n (nI i) (cpR M 2 (imS M k) 0 i) = fX13_restore_60 (nI k) mx_fu 0 (cpR M 2 (imS M k) 0 294) := by
  intro c
  induction c with
  | zero =>
    intro i n hi hn
    obtain ⟨n, rfl⟩ : ∃ z, n = z + 1 := ⟨n - 1, by omega⟩
    have : i = 294 := by omega
    subst this
    rw [fX13_restore_27, c294, if_pos (nI_le (by omega) (by omega))]
  | succ c ih =>
    intro i n hi hn
    obtain ⟨n, rfl⟩ : ∃ z, n = z + 1 := ⟨n - 1, by omega⟩
    have e := cpR_s (Y := M) (c := 2) (b := 0) (k := i) (f := imS M k)
    rw [Nat.zero_add] at e
    have e2 : imS M k i = M.1 19 (294 * k + i) := rfl
    rw [e2] at e
    rw [fX13_restore_27, c294, if_neg (nI_ge (by omega) (by omega)), nI_mul, nI_add, pb_gd (by omega) (by omega), pb_gd (by omega) (by omega), nI_clamp (by omega), nI_clamp (by omega), cpR_n (by omega), e, nI_1]
    exact ih (i + 1) n (by omega) (by omega)
theorem m_restore {k : Nat} (hk : k < 2) (M : MM) : fX13_restore_27 (nI k) mx_fu 0 M = some (true, mx_si (cpL (cpR M 2 (imS M k) 0 294) 5 (imR M k) 0 14) 0 23 0) := by
  have h1 := m_re27 hk M 294 0 mx_fu (by omega) (by unfold mx_fu; omega)
  rw [cpR_0, nI_0] at h1
  have h2 := m_re60 hk (cpR M 2 (imS M k) 0 294) 14 0 mx_fu (by omega) (by unfold mx_fu; omega)
  rw [cpL_0, nI_0] at h2
  rw [h1, h2]
  rfl
/-- the images alone changed -/
theorem Inv.imgs {X X' Y Y' : MM} {P N : Nat} (h : Inv X Y P N) (h1 : ∀ k, k < 157 → X'.1 k = X.1 k) (h2 : ∀ k, k < 157 → X'.2.1 k = X.2.1 k) (h3 : ∀ k, k < 157 → X'.2.2 k = X.2.2 k) (h4 : ∀ i, i < 40 → X'.2.2 178 i < 24 ∧ X'.2.2 201 i < 24) (y1 : ∀ a, a ≠ 0 → a ≠ 19 → a ≠ 21 → Y'.1 a = Y.1 a) (y2 : ∀ j, j ≠ 0 → Y'.1 0 j = Y.1 0 j) (y3 : ∀ k, k ≠ 20 → Y'.2.1 k = Y.2.1 k) (im : rIm X' Y') : Inv X' Y' P N := by
  have hP := h.p7
  have hN := h.n7
  have e2 : Y'.1 2 = Y.1 2 := y1 2 (by omega) (by omega) (by omega)
  refine ⟨by rw [e2]; exact h.ld, by rw [e2]; exact h.st, ?_, ?_, ?_, ?_, ?_, ?_, ?_, im, ?_, ?_, ?_, ?_, ?_⟩
  · rw [e2, ← rLo_9]; exact rLo_fr (fun k a b => h1 k (by omega)) hP hN (fun _ _ => rfl) h.rl
  · rw [e2]; exact rSt_fr (fun k a b => h1 k (by omega)) h.rs
  · exact rPast_fr (fun k a b => h1 k (by omega)) (h3 57 (by omega)) (y1 7 (by omega) (by omega) (by omega)) (y2 23 (by omega)) h.pa
  · exact rNm_fr (h2 _ (by omega)) (h2 _ (by omega)) hP hN (fun i _ => by rw [y3 5 (by omega)]) h.nm
  · rw [e2]; exact rSy_fr (h1 _ (by omega)) (h3 _ (by omega)) (h1 _ (by omega)) (h1 _ (by omega)) (fun _ _ => rfl) h.sy
  · exact rTp_fr (h1 _ (by omega)) (h1 _ (by omega)) (y2 2 (by omega)) (y1 1 (by omega) (by omega) (by omega)) h.tp
  · rw [h1 0 (by omega), y2 15 (by omega)]; exact h.ft
  · exact rPl_fr (by rw [h1 143 (by omega)]) (h1 _ (by omega)) (h1 _ (by omega)) (y2 26 (by omega)) (y1 10 (by omega) (by omega) (by omega)) (y2 29 (by omega)) (y1 12 (by omega) (by omega) (by omega)) h.pl
  · exact rFi_fr (h1 _ (by omega)) (y2 32 (by omega)) (y2 30 (by omega)) (y2 31 (by omega)) h.fi
  · exact rNt_fr (h1 _ (by omega)) (h1 _ (by omega)) (y2 37 (by omega)) (y1 15 (by omega) (by omega) (by omega)) h.nt
  · exact rBk_fr (fun j _ => by rw [h1 138 (by omega)]) (y2 41 (by omega)) (y1 16 (by omega) (by omega) (by omega)) h.bk
  · obtain ⟨a, b, c⟩ := h.rf
    refine ⟨fun k hk => ?_, fun i hi => ?_, fun k hk => ?_⟩
    · rw [h3 154 (by omega), h3 155 (by omega), h3 156 (by omega)]; exact a k hk
    · rw [h3 131 (by omega), h3 135 (by omega)]
      exact ⟨(b i hi).1, (b i hi).2.1, h4 i hi⟩
    · rw [y3 6 (by omega)]; exact c k hk
/-- another island, state, sentence; nothing can be undone -/
theorem Inv.new {X X' Y Y' : MM} {P N P' N' : Nat} (h : Inv X Y P N) (hA : rAll 9 29 130 X' (Y'.1 2) (Y'.2.1 5) P' N') (x1 : ∀ k, (57 ≤ k ∧ k ≤ 129) ∨ 138 ≤ k → X'.1 k = X.1 k) (x0 : X'.1 56 1 = 0) (x2 : ∀ k, 157 ≤ k → X'.2.1 k = X.2.1 k) (x3 : ∀ k, 56 ≤ k → k ≠ 131 → X'.2.2 k = X.2.2 k) (xw : ∀ i, i < 40 → X'.2.2 131 i < 24) (y1 : ∀ a, a = 10 ∨ a = 12 ∨ a = 15 ∨ a = 16 ∨ a = 19 ∨ a = 21 → Y'.1 a = Y.1 a) (y2 : ∀ j, j = 26 ∨ (29 ≤ j ∧ j ≤ 32) ∨ j = 37 ∨ j = 41 → Y'.1 0 j = Y.1 0 j) (y23 : Y'.1 0 23 = 0) (y3 : ∀ k, k = 6 ∨ k = 20 → Y'.2.1 k = Y.2.1 k) (tp : rTp X' Y') (ft : X'.1 0 18 = Y'.1 0 15) : Inv X' Y' P' N' := by
  obtain ⟨h1, h2, h3, h4, h5, h6⟩ := hA
  refine ⟨h1, h2, h3, h4, ?_, h6, h5, tp, ft, ?_, ?_, ?_, ?_, ?_, ?_⟩
  · obtain ⟨U, π, -, -, -, a4, a5, -⟩ := h.pa
    exact ⟨0, π, by omega, x0, y23, fun i hi => by rw [x3 57 (by omega) (by omega)]; exact a4 i hi, a5, fun i hi => absurd hi (by omega)⟩
  · exact rIm_fr (fun j hj => x1 j (by omega)) x2 (fun j hj => x3 j (by omega) (by omega)) (y1 19 (by omega)) (y3 20 (by omega)) (y1 21 (by omega)) h.im
  · exact rPl_fr (by rw [x1 143 (by omega)]) (x1 _ (by omega)) (x1 _ (by omega)) (y2 26 (by omega)) (y1 10 (by omega)) (y2 29 (by omega)) (y1 12 (by omega)) h.pl
  · exact rFi_fr (x1 _ (by omega)) (y2 32 (by omega)) (y2 30 (by omega)) (y2 31 (by omega)) h.fi
  · exact rNt_fr (x1 _ (by omega)) (x1 _ (by omega)) (y2 37 (by omega)) (y1 15 (by omega)) h.nt
  · exact rBk_fr (fun j _ => by rw [x1 138 (by omega)]) (y2 41 (by omega)) (y1 16 (by omega)) h.bk
  · obtain ⟨a, b, c⟩ := h.rf
    refine ⟨fun k hk => ?_, fun i hi => ?_, fun k hk => ?_⟩
    · rw [x3 154 (by omega) (by omega), x3 155 (by omega) (by omega), x3 156 (by omega) (by omega)]; exact a k hk
    · rw [x3 135 (by omega) (by omega), x3 178 (by omega) (by omega), x3 201 (by omega) (by omega)]
      exact ⟨xw i hi, (b i hi).2⟩
    · rw [y3 6 (by omega)]; exact c k hk
theorem isIn01 {i : Int32} {M : MM} : fX13_isIn i (0 : Int32) (1 : Int32) M = some (mx_in i 2) := m_isInP (n := 2) (by omega)
theorem isI_k : ∀ k, k < 2 → xt_isI (158 + 23 * k) = true ∧ xt_isS (168 + 23 * k) = true ∧ xt_isN (177 + 23 * k) = true := by decide
theorem q_image {X Y : MM} {P N : Nat} {i : Int32} (h : Inv X Y P N) : RW (fX12_image i X) (fX13_image i Y) := by
  rw [fX12_image, fX13_image, isIn01]
  simp only [pb_bs]
  rcases in_cases i 2 (by omega) with hr | ⟨k, hk, rfl⟩
  · have hr' := hr
    rw [in_lt (by omega)] at hr
    rw [hr', if_pos b_f]
    by_cases h0 : i < 0
    · rw [if_pos h0]; exact ⟨_, _, _, rfl, rfl, P, N, h.th⟩
    · rw [if_neg h0]
      simp only [h0, decide_false, Bool.not_false, Bool.true_and, Bool.not_eq_false', decide_eq_true_eq] at hr
      rw [c2, if_neg (Int32.not_lt.mpr hr)]
      exact ⟨_, _, _, rfl, rfl, P, N, h.th⟩
  obtain ⟨ra, rb, rc⟩ := h.rf
  obtain ⟨e1, e2, e3⟩ := ra k hk
  obtain ⟨i1, i2, i3⟩ := isI_k k hk
  obtain ⟨X1, X2, X3, a1, a2, a3, a4, a5, a6, a7, a8, a9, a10⟩ := x_copyAll (X := X) (o := 158 + 23 * k) (s := 168 + 23 * k) (n := 177 + 23 * k) (o1 := 9) (s1 := 29) (n1 := 130) (by omega) (by omega) (by omega) (fun i hi => (rb i hi).1) (by omega) (by omega)
  rw [pb_in hk (by omega), if_neg b_t, if_neg (nI_pos (by omega)), c2, if_pos (nI_lt hk (by omega)), if_pos rfl, nI_clamp (by omega), e1, i1, if_pos rfl, a1]
  simp only [pb_bs]
  rw [if_pos trivial, a4, e2, i2, if_pos rfl, a2]
  simp only [pb_bs]
  rw [if_pos trivial, a5, e3, i3, if_pos rfl, a3]
  simp only [pb_bs]
  rw [if_pos trivial, m_image hk]
  refine ⟨_, _, _, rfl, rfl, P, N, ?_⟩
  have ev : vp_nar .boolean (1 : Int32) = 1 := by decide
  rw [ev]
  have s2 : (mx_si Y 0 0 (0 : Int32)).1 2 = Y.1 2 := th2'
  have x157 : ∀ j, j ≠ 157 → (mx_si X3 157 k (1 : Int32)).1 j = X3.1 j := fun j hj => si_row hj
  refine h.imgs (fun j hj => ?_) (fun j hj => ?_) (fun j hj => ?_) (fun i hi => ?_) (fun a a0 a19 a21 => ?_) (fun j hj => ?_) (fun j hj => ?_) ?_
  · rw [x157 j (by omega), a6 j (by omega) (by omega) (by omega)]
  · exact a7 j (by omega)
  · exact a8 j (by omega)
  · refine ⟨?_, ?_⟩
    · by_cases e : 178 = 177 + 23 * k + 1
      · have := a9 i hi; rw [← e] at this; exact this
      · show X3.2.2 178 i < 24
        rw [a8 178 e]; exact (rb i hi).2.2.1
    · by_cases e : 201 = 177 + 23 * k + 1
      · have := a9 i hi; rw [← e] at this; exact this
      · show X3.2.2 201 i < 24
        rw [a8 201 e]; exact (rb i hi).2.2.2
  · rw [si_row a21]
    rw [cpL_1]
    rw [cpR_n a19, si_row a0]
  · rw [si_nk (by omega)]
    rw [cpL_1]
    rw [cpR_n (by omega), si_nj hj]
  · show (cpL _ 20 _ _ _).2.1 j = _
    rw [cpL_n hj]; rfl
  · -- the images
    have imk : ∀ k', k' < 2 → rIm1 X Y k' := fun k' hk' => by
      rcases (by omega : k' = 0 ∨ k' = 1) with rfl | rfl
      · exact h.im.1
      · exact h.im.2
    have goal : ∀ k', k' < 2 → rIm1 (mx_si X3 157 k (1 : Int32)) (mx_si (cpL (cpR (mx_si Y 0 0 (0 : Int32)) 19 ((mx_si Y 0 0 (0 : Int32)).1 2) (294 * k) 294) 20 ((mx_si Y 0 0 (0 : Int32)).2.1 5) (14 * k) 14) 21 k 1) k' := by
      intro k' hk'
      have f19 : ∀ j, (mx_si (cpL (cpR (mx_si Y 0 0 (0 : Int32)) 19 ((mx_si Y 0 0 (0 : Int32)).1 2) (294 * k) 294) 20 ((mx_si Y 0 0 (0 : Int32)).2.1 5) (14 * k) 14) 21 k (1 : Int32)).1 19 j = (cpR (mx_si Y 0 0 (0 : Int32)) 19 (Y.1 2) (294 * k) 294).1 19 j := fun j => by
        rw [si_nk (by omega), s2]; rfl
      have f20 : ∀ j, (mx_si (cpL (cpR (mx_si Y 0 0 (0 : Int32)) 19 ((mx_si Y 0 0 (0 : Int32)).1 2) (294 * k) 294) 20 ((mx_si Y 0 0 (0 : Int32)).2.1 5) (14 * k) 14) 21 k (1 : Int32)).2.1 20 j = (cpL Y 20 (Y.2.1 5) (14 * k) 14).2.1 20 j := fun j => rfl
      by_cases e : k' = k
      · subst e
        refine ⟨by rw [si_eq, si_eq], fun _ => ⟨P, N, ?_⟩⟩
        refine rAll_S (S := Y.1 2) (R := Y.2.1 5) (fun i hi => ?_) (fun i hi => ?_) (rAll_X (X := X3) (fun j hj => x157 j (by omega)) (fun _ _ _ => rfl) rfl (a10 _ _ P N h.all))
        · show _ = _
          unfold imS
          rw [f19, cpR_in hi]
        · unfold imR
          rw [f20, cpL_in hi]
      · obtain ⟨b1, b2⟩ := imk k' hk'
        have y21 : (mx_si (cpL (cpR (mx_si Y 0 0 (0 : Int32)) 19 ((mx_si Y 0 0 (0 : Int32)).1 2) (294 * k) 294) 20 ((mx_si Y 0 0 (0 : Int32)).2.1 5) (14 * k) 14) 21 k (1 : Int32)).1 21 k' = Y.1 21 k' := by
          rw [si_nj e]
          rw [cpL_1]
          rw [cpR_n (by omega), si_nk (by omega)]
        refine ⟨by rw [si_nj e, y21, a6 157 (by omega) (by omega) (by omega)]; exact b1, fun hne => ?_⟩
        rw [y21] at hne
        obtain ⟨P', N', b3⟩ := b2 hne
        refine ⟨P', N', rAll_S (S := imS Y k') (R := imR Y k') (fun i hi => ?_) (fun i hi => ?_) (rAll_X (X := X) (fun j hj => ?_) (fun j j1 j2 => ?_) ?_ b3)⟩
        · unfold imS
          rw [f19, cpR_out (by omega), si_nk (by omega)]
        · unfold imR
          rw [f20, cpL_out (by omega)]
        · rw [x157 j (by omega), a6 j (by omega) (by omega) (by omega)]
        · exact a7 j (by omega)
        · exact a8 _ (by omega)
    exact ⟨goal 0 (by omega), goal 1 (by omega)⟩
theorem q_restore {X Y : MM} {P N : Nat} {i : Int32} (h : Inv X Y P N) : RW (fX12_restore i X) (fX13_restore i Y) := by
  rw [fX12_restore, fX13_restore, isIn01]
  simp only [pb_bs]
  rcases in_cases i 2 (by omega) with hr | ⟨k, hk, rfl⟩
  · have hr' := hr
    rw [in_lt (by omega)] at hr
    rw [hr', if_pos b_f]
    by_cases h0 : i < 0
    · rw [if_pos h0]; exact ⟨_, _, _, rfl, rfl, P, N, h.th⟩
    · rw [if_neg h0]
      simp only [h0, decide_false, Bool.not_false, Bool.true_and, Bool.not_eq_false', decide_eq_true_eq] at hr
      rw [c2, if_pos hr]
      exact ⟨_, _, _, rfl, rfl, P, N, h.th⟩
  have imk : rIm1 X Y k := by
    rcases (by omega : k = 0 ∨ k = 1) with rfl | rfl
    · exact h.im.1
    · exact h.im.2
  obtain ⟨b1, b2⟩ := imk
  rw [pb_in hk (by omega), if_neg b_t, if_neg (nI_pos (by omega)), c2, if_neg (nI_ge hk (by omega)), if_pos rfl, if_pos rfl, nI_clamp (by omega), b1, si_nk (by omega)]
  by_cases hz : Y.1 21 k = 0
  · rw [if_pos hz, if_pos hz]; exact ⟨_, _, _, rfl, rfl, P, N, h.th⟩
  rw [if_neg hz, if_neg hz]
  obtain ⟨P', N', b3⟩ := b2 hz
  obtain ⟨ra, rb, rc⟩ := h.rf
  obtain ⟨e1, e2, e3⟩ := ra k hk
  obtain ⟨i1, i2, i3⟩ := isI_k k hk
  obtain ⟨X1, X2, X3, a1, a2, a3, a4, a5, a6, a7, a8, a9, a10⟩ := x_copyAll (X := X) (o := 9) (s := 29) (n := 130) (o1 := 158 + 23 * k) (s1 := 168 + 23 * k) (n1 := 177 + 23 * k) (by omega) (by omega) (by omega) (fun i hi => by
    rcases (by omega : k = 0 ∨ k = 1) with rfl | rfl
    · exact (rb i hi).2.2.1
    · exact (rb i hi).2.2.2) (by omega) (by omega)
  rw [if_pos rfl, e1, i1, if_pos rfl, a1]
  simp only [pb_bs]
  rw [if_pos trivial, a4, e2, i2, if_pos rfl, a2]
  simp only [pb_bs]
  rw [if_pos trivial, a5, e3, i3, if_pos rfl, a3]
  simp only [pb_bs]
  rw [fX5_clear]
  simp only [pb_bs]
  rw [m_restore hk]
  refine ⟨_, _, _, rfl, rfl, P', N', ?_⟩
  have y1 : ∀ a, a ≠ 0 → a ≠ 2 → (mx_si (cpL (cpR (mx_si Y 0 0 (0 : Int32)) 2 (imS (mx_si Y 0 0 (0 : Int32)) k) 0 294) 5 (imR (mx_si Y 0 0 (0 : Int32)) k) 0 14) 0 23 (0 : Int32)).1 a = Y.1 a := fun a a0 a2 => by
    rw [si_row a0]
    rw [cpL_1]
    rw [cpR_n a2, si_row a0]
  have y0 : ∀ j, j ≠ 0 → j ≠ 23 → (mx_si (cpL (cpR (mx_si Y 0 0 (0 : Int32)) 2 (imS (mx_si Y 0 0 (0 : Int32)) k) 0 294) 5 (imR (mx_si Y 0 0 (0 : Int32)) k) 0 14) 0 23 (0 : Int32)).1 0 j = Y.1 0 j := fun j j0 j23 => by
    rw [si_nj j23]
    rw [cpL_1]
    rw [cpR_n (by omega), si_nj j0]
  have x1 : ∀ j, j ≠ 56 → (mx_si X3 56 1 (0 : Int32)).1 j = X3.1 j := fun j hj => si_row hj
  refine h.new ?_ (fun j hj => ?_) si_eq (fun j hj => ?_) (fun j j1 j2 => ?_) (fun i hi => a9 i hi) (fun a ha => y1 a (by omega) (by omega)) (fun j hj => y0 j (by omega) (by omega)) si_eq (fun j hj => ?_) ?_ ?_
  · refine rAll_S (S := imS Y k) (R := imR Y k) (fun i hi => ?_) (fun i hi => ?_) (rAll_X (X := X3) (fun j hj => x1 j (by omega)) (fun _ _ _ => rfl) rfl (a10 _ _ P' N' b3))
    · rw [si_nk (by omega)]
      rw [cpL_1]
      have := cpR_in (Y := mx_si Y 0 0 (0 : Int32)) (c := 2) (b := 0) (n := 294) (f := imS (mx_si Y 0 0 (0 : Int32)) k) hi
      rw [Nat.zero_add] at this
      rw [this]
      unfold imS
      rw [si_nk (by omega)]
    · show (cpL _ 5 _ _ _).2.1 5 i = _
      have := cpL_in (Y := cpR (mx_si Y 0 0 (0 : Int32)) 2 (imS (mx_si Y 0 0 (0 : Int32)) k) 0 294) (c := 5) (b := 0) (n := 14) (f := imR (mx_si Y 0 0 (0 : Int32)) k) hi
      rw [Nat.zero_add] at this
      rw [this]
      rfl
  · rw [x1 j (by omega), a6 j (by omega) (by omega) (by omega)]
  · exact a7 j (by omega)
  · exact a8 j j2
  · show (cpL _ 5 _ _ _).2.1 j = _
    rw [cpL_n (by omega)]; rfl
  · exact rTp_fr (by rw [x1 1 (by omega), a6 1 (by omega) (by omega) (by omega)]) (by rw [x1 2 (by omega), a6 2 (by omega) (by omega) (by omega)]) (y0 2 (by omega) (by omega)) (y1 1 (by omega) (by omega)) h.tp
  · rw [x1 0 (by omega), a6 0 (by omega) (by omega) (by omega), y0 15 (by omega) (by omega)]; exact h.ft
