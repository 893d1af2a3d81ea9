/-! a sentence: the reference's stack beside the class's calls -/
def stR : List Nat → MM → Prop
  | [], _ => True
  | o :: st, Y => (Y.1 17 st.length = nI o ∧ o < 100) ∧ stR st Y
def pdR : List Nat → Nat → MM → Prop
  | [], n, X => X.1 134 3 = nI n
  | o :: π, n, X => (X.2.2 135 n = 34 - o ∧ X.1 136 n = 0 ∧ X.1 137 n = 0) ∧ pdR π (n + 1) X
def cN : List Nat → Nat
  | [] => 0
  | o :: π => (if o = 20 then 1 else 0) + cN π
def cB : List Nat → Nat
  | [] => 0
  | o :: π => (if o = 21 ∨ o = 22 then 1 else 0) + cB π
def rDp (R : Nat → Int32) : Nat → Option Nat
  | 0 => some 0
  | i + 1 => (rDp R i).bind fun d => if R (3 * i) = 20 then if 1 ≤ d then some d else none else if R (3 * i) = 21 ∨ R (3 * i) = 22 then if 2 ≤ d then some (d - 1) else none else some (d + 1)
theorem rDp_congr {R R' : Nat → Int32} : ∀ n, (∀ j, j < 3 * n → R' j = R j) → rDp R' n = rDp R n := by
  intro n
  induction n with
  | zero => intro _; rfl
  | succ n ih => intro h; rw [rDp, rDp, ih (fun j hj => h j (by omega)), h (3 * n) (by omega)]
theorem cN_app : ∀ a b : List Nat, cN (a ++ b) = cN a + cN b := by
  intro a b
  induction a with
  | nil => rw [List.nil_append, cN, Nat.zero_add]
  | cons o a ih => rw [List.cons_append, cN, cN, ih, Nat.add_assoc]
theorem cB_app : ∀ a b : List Nat, cB (a ++ b) = cB a + cB b := by
  intro a b
  induction a with
  | nil => rw [List.nil_append, cB, Nat.zero_add]
  | cons o a ih => rw [List.cons_append, cB, cB, ih, Nat.add_assoc]
theorem stR.fr {Y Y' : MM} : ∀ st : List Nat, (∀ i, i < st.length → Y'.1 17 i = Y.1 17 i) → stR st Y → stR st Y' := by
  intro st
  induction st with
  | nil => intro _ _; trivial
  | cons o st ih =>
    intro h hs
    refine ⟨⟨?_, hs.1.2⟩, ih (fun i hi => h i (by rw [List.length_cons]; omega)) hs.2⟩
    rw [h st.length (by rw [List.length_cons]; omega)]
    exact hs.1.1
theorem pdR.sz {X : MM} : ∀ (π : List Nat) (n : Nat), pdR π n X → X.1 134 3 = nI (n + π.length) := by
  intro π
  induction π with
  | nil => intro n h; exact h
  | cons o π ih =>
    intro n h
    rw [ih (n + 1) h.2, List.length_cons]
    congr 1
    omega
theorem pdR.fr {X X' : MM} : ∀ (π : List Nat) (n : Nat), X'.1 134 3 = X.1 134 3 → (∀ i, X'.2.2 135 i = X.2.2 135 i) → (∀ i, X'.1 136 i = X.1 136 i) → (∀ i, X'.1 137 i = X.1 137 i) → pdR π n X → pdR π n X' := by
  intro π
  induction π with
  | nil => intro n h3 _ _ _ h; exact h3.trans h
  | cons o π ih =>
    intro n h3 h5 h6 h7 h
    exact ⟨⟨by rw [h5]; exact h.1.1, by rw [h6]; exact h.1.2.1, by rw [h7]; exact h.1.2.2⟩, ih (n + 1) h3 h5 h6 h7 h.2⟩
theorem pdR.app {X X' : MM} {o : Nat} : ∀ (π : List Nat) (n : Nat), pdR π n X → X'.1 134 3 = nI (n + π.length + 1) → (∀ i, i ≠ n + π.length → X'.2.2 135 i = X.2.2 135 i ∧ X'.1 136 i = X.1 136 i ∧ X'.1 137 i = X.1 137 i) → X'.2.2 135 (n + π.length) = 34 - o → X'.1 136 (n + π.length) = 0 → X'.1 137 (n + π.length) = 0 → pdR (π ++ [o]) n X' := by
  intro π
  induction π with
  | nil =>
    intro n h h3 hf h5 h6 h7
    exact ⟨⟨h5, h6, h7⟩, h3⟩
  | cons p π ih =>
    intro n h h3 hf h5 h6 h7
    have e : n + (p :: π).length = n + 1 + π.length := by rw [List.length_cons]; omega
    rw [e] at h3 hf h5 h6 h7
    obtain ⟨q1, q2, q3⟩ := hf n (by omega)
    exact ⟨⟨by rw [q1]; exact h.1.1, by rw [q2]; exact h.1.2.1, by rw [q3]; exact h.1.2.2⟩, ih (n + 1) h.2 h3 hf h5 h6 h7⟩
def SR (T : TX) (P N s n t ones d : Nat) (σ π : List Nat) (wh : Bool) (X Y : MM) : Prop :=
  LX T s X Y ∧ SB P N X Y ∧ (X.1 134 4 = nI ones ∧ Y.1 0 44 = nI ones ∧ ones ≤ 20) ∧ (Y.1 0 43 = nI n ∧ n + π.length + t ≤ 2 * ones) ∧ (stR (π ++ σ) Y ∧ Y.1 0 45 = nI (π ++ σ).length ∧ (π ++ σ).length ≤ 45) ∧ (Y.1 0 46 = nI (d + cN π) ∧ d ≤ 100 ∧ Y.1 0 47 = mx_b wh) ∧ pdR π n X ∧ (∀ i, i < n → rC P N (X.2.2 135 i) (X.1 136 i) (X.1 137 i) (Y.1 4 (3 * i)) (Y.1 4 (3 * i + 1)) (Y.1 4 (3 * i + 2))) ∧ rDp (Y.1 4) n = some (t + cB π)
/-- the reference writes a code -/
theorem m_code {Y : MM} {n : Nat} {a b c : Int32} (h : Y.1 0 43 = nI n) (hn : n ≤ 50) : fX13_code a b c Y = some (mx_si (mx_si (mx_si (mx_si Y 4 (3 * n) a) 4 (3 * n + 1) b) 4 (3 * n + 2) c) 0 43 (nI (n + 1))) := by
  have e : (3 : Int32) * nI n = nI (3 * n) := pk_mul 3 n
  have n04 : (0 : Nat) ≠ 4 := by omega
  rw [fX13_code]
  simp only [si_nk n04, h, e]
  have e1 : nI (3 * n) + (1 : Int32) = nI (3 * n + 1) := nI_add _ 1
  have e2 : nI (3 * n) + (2 : Int32) = nI (3 * n + 2) := nI_add _ 2
  rw [e1, e2, pb_gd (by omega) (by omega), pb_gd (by omega) (by omega), pb_gd (by omega) (by omega), nI_clamp (by omega), nI_clamp (by omega), nI_clamp (by omega), nI_1]
/-- .. of a code that the class has written -/
theorem SR.code {T : TX} {P N s n t t' ones d : Nat} {σ π π' : List Nat} {wh : Bool} {X Y Y1 : MM} {a b c : Int32} (h : SR T P N s n t ones d σ π wh X Y) (hY1 : LX T s X Y1) (hW : WY Y Y1) (y43 : Y1.1 0 43 = nI n) (y44 : Y1.1 0 44 = Y.1 0 44) (y47 : Y1.1 0 47 = Y.1 0 47) (y4 : Y1.1 4 = Y.1 4) (hst : stR (π' ++ σ) Y1) (hl : Y1.1 0 45 = nI (π' ++ σ).length) (hl2 : (π' ++ σ).length ≤ 45) (h46 : Y1.1 0 46 = nI (d + cN π')) (hpd : pdR π' (n + 1) X) (hc : rC P N (X.2.2 135 n) (X.1 136 n) (X.1 137 n) a b c) (hd : rDp (upd (Y.1 4) (3 * n) a) (n + 1) = some (t' + cB π')) (hz : n + 1 + π'.length + t' ≤ 2 * ones) : ∃ Y', fX13_code a b c Y1 = some Y' ∧ SR T P N s (n + 1) t' ones d σ π' wh X Y' ∧ WY Y Y' := by
  obtain ⟨h1, h2, ⟨h3, h4, h5⟩, ⟨h6, h7⟩, ⟨h8, h9, h10⟩, ⟨h11, h11', h12⟩, h13, h14, h15⟩ := h
  refine ⟨_, m_code y43 (by omega), ?_, (((hW.si (by omega)).si (by omega)).si (by omega)).si (by omega)⟩
  have hLX := (((hY1.ys (k := 4) (j := 3 * n) (v := a) (by omega)).ys (k := 4) (j := 3 * n + 1) (v := b) (by omega)).ys (k := 4) (j := 3 * n + 2) (v := c) (by omega)).ys (k := 0) (j := 43) (v := nI (n + 1)) (by omega)
  have wY : WY Y (mx_si (mx_si (mx_si (mx_si Y1 4 (3 * n) a) 4 (3 * n + 1) b) 4 (3 * n + 2) c) 0 43 (nI (n + 1))) := (((hW.si (by omega)).si (by omega)).si (by omega)).si (by omega)
  have r0 : ∀ j, j ≠ 43 → (mx_si (mx_si (mx_si (mx_si Y1 4 (3 * n) a) 4 (3 * n + 1) b) 4 (3 * n + 2) c) 0 43 (nI (n + 1))).1 0 j = Y1.1 0 j := fun j hj => by rw [si_nj hj, si_nk (by omega), si_nk (by omega), si_nk (by omega)]
  have r4 : ∀ j, j < 3 * n → (mx_si (mx_si (mx_si (mx_si Y1 4 (3 * n) a) 4 (3 * n + 1) b) 4 (3 * n + 2) c) 0 43 (nI (n + 1))).1 4 j = Y.1 4 j := fun j hj => by rw [si_nk (by omega), si_nj (by omega), si_nj (by omega), si_nj (by omega), y4]
  have a0 : (mx_si (mx_si (mx_si (mx_si Y1 4 (3 * n) a) 4 (3 * n + 1) b) 4 (3 * n + 2) c) 0 43 (nI (n + 1))).1 4 (3 * n) = a := by rw [si_nk (by omega), si_nj (by omega), si_nj (by omega), si_eq]
  have a1 : (mx_si (mx_si (mx_si (mx_si Y1 4 (3 * n) a) 4 (3 * n + 1) b) 4 (3 * n + 2) c) 0 43 (nI (n + 1))).1 4 (3 * n + 1) = b := by rw [si_nk (by omega), si_nj (by omega), si_eq]
  have a2 : (mx_si (mx_si (mx_si (mx_si Y1 4 (3 * n) a) 4 (3 * n + 1) b) 4 (3 * n + 2) c) 0 43 (nI (n + 1))).1 4 (3 * n + 2) = c := by rw [si_nk (by omega), si_eq]
  refine ⟨hLX, h2.w WX.rf wY, ⟨h3, by rw [r0 44 (by omega), y44]; exact h4, h5⟩, ⟨si_eq, hz⟩, ⟨?_, by rw [r0 45 (by omega)]; exact hl, hl2⟩, ⟨by rw [r0 46 (by omega)]; exact h46, h11', by rw [r0 47 (by omega), y47]; exact h12⟩, hpd, fun i hi => ?_, ?_⟩
  · exact stR.fr _ (fun i _ => by rw [si_nk (by omega), si_nk (by omega), si_nk (by omega), si_nk (by omega)]) hst
  · rcases Nat.lt_or_ge i n with q | q
    · rw [r4 _ (by omega), r4 _ (by omega), r4 _ (by omega)]
      exact h14 i q
    · have : i = n := by omega
      subst this
      rw [a0, a1, a2]
      exact hc
  · rw [← hd]
    rw [rDp, rDp, a0, pk_us]
    rw [rDp_congr (R := Y.1 4) n r4, rDp_congr (R := Y.1 4) (R' := upd (Y.1 4) (3 * n) a) n (fun j hj => by rw [pk_un (by omega)])]
/-- one of the stack is written -/
theorem SR.pop {T : TX} {P N s n t ones d o : Nat} {σ π : List Nat} {wh : Bool} {X Y : MM} (h : SR T P N s n t ones d σ (o :: π) wh X Y) (ho : o = 20 ∨ o = 21 ∨ o = 22) (ht : 1 ≤ t) : ∃ Y', fX13_code (nI o) 0 0 (if o = 20 then mx_si (mx_si Y 0 45 (nI (π ++ σ).length)) 0 46 (nI (d + cN π)) else mx_si Y 0 45 (nI (π ++ σ).length)) = some Y' ∧ SR T P N s (n + 1) t ones d σ π wh X Y' ∧ WY Y Y' := by
  have h' := h
  obtain ⟨h1, h2, ⟨h3, h4, h5⟩, ⟨h6, h7⟩, ⟨h8, h9, h10⟩, ⟨h11, h11', h12⟩, h13, h14, h15⟩ := h
  rw [List.cons_append] at h8 h9 h10
  rw [List.length_cons] at h7 h9 h10
  have cb : rDp (upd (Y.1 4) (3 * n) (nI o)) (n + 1) = some (t + cB π) := by
    rw [rDp, rDp_congr (R := Y.1 4) n (fun j hj => by rw [pk_un (by omega)]), h15, pk_us, cB]
    simp only [pb_bs]
    rcases ho with rfl | rfl | rfl
    · rw [if_pos (by decide), if_pos (by omega), if_neg (by omega)]
      congr 1
      omega
    · rw [if_neg (by decide), if_pos (by decide), if_pos (show (21 : Nat) = 21 ∨ (21 : Nat) = 22 by omega), if_pos (by omega)]
      congr 1
      omega
    · rw [if_neg (by decide), if_pos (by decide), if_pos (show (22 : Nat) = 21 ∨ (22 : Nat) = 22 by omega), if_pos (by omega)]
      congr 1
      omega
  have rc : rC P N (X.2.2 135 n) (X.1 136 n) (X.1 137 n) (nI o) 0 0 := by
    refine ⟨h13.1.2.1, h13.1.2.2, Or.inr ?_⟩
    rw [h13.1.1]
    rcases ho with rfl | rfl | rfl
    · exact Or.inl ⟨rfl, rfl⟩
    · exact Or.inr (Or.inl ⟨rfl, rfl⟩)
    · exact Or.inr (Or.inr ⟨rfl, rfl⟩)
  by_cases o20 : o = 20
  · rw [if_pos o20]
    refine SR.code h' ((h1.ys (by omega)).ys (by omega)) ((WY.rf.si (by omega)).si (by omega)) ?_ ?_ ?_ ?_ ?_ ?_ (by omega) ?_ h13.2 rc cb (by omega)
    · rw [si_nj (by omega), si_nj (by omega)]; exact h6
    · rw [si_nj (by omega), si_nj (by omega)]
    · rw [si_nj (by omega), si_nj (by omega)]
    · rw [si_row (by omega), si_row (by omega)]
    · exact stR.fr _ (fun i _ => by rw [si_nk (by omega), si_nk (by omega)]) h8.2
    · rw [si_nj (by omega), si_eq]
    · rw [si_eq]
  · rw [if_neg o20]
    refine SR.code h' (h1.ys (by omega)) (WY.rf.si (by omega)) ?_ ?_ ?_ ?_ ?_ ?_ (by omega) ?_ h13.2 rc cb (by omega)
    · rw [si_nj (by omega)]; exact h6
    · rw [si_nj (by omega)]
    · rw [si_nj (by omega)]
    · rw [si_row (by omega)]
    · exact stR.fr _ (fun i _ => by rw [si_nk (by omega)]) h8.2
    · rw [si_eq]
    · rw [si_nj (by omega), h11, cN, if_neg o20, Nat.zero_add]
theorem m_nots {T : TX} {P N s t ones d : Nat} {σ π : List Nat} {wh : Bool} {X : MM} (ht : 1 ≤ t) (hh : ∀ o τ, π ++ σ = o :: τ → o ≠ 20) : ∀ k n f Y, k < f → SR T P N s n t ones d σ (List.replicate k 20 ++ π) wh X Y → ∃ Y', fX13_nots_0 f Y = some Y' ∧ SR T P N s (n + k) t ones d σ π wh X Y' ∧ WY Y Y' := by
  intro k
  induction k with
  | zero =>
    intro n f Y hf h
    obtain ⟨f, rfl⟩ : ∃ z, f = z + 1 := ⟨f - 1, by omega⟩
    rw [List.replicate_zero, List.nil_append] at h
    have h' := h
    obtain ⟨-, -, -, -, ⟨h8, h9, h10⟩, -, -, -, -⟩ := h
    refine ⟨Y, ?_, h', WY.rf⟩
    rw [fX13_nots_0, h9]
    cases hl : π ++ σ with
    | nil => rw [List.length_nil, if_pos (by decide)]
    | cons o τ =>
      have hno := hh o τ hl
      rw [hl] at h8 h9 h10
      rw [List.length_cons] at h10
      rw [List.length_cons, if_neg (nI_nle (by omega) (by omega)), nI_pred, pb_gd (by omega) (by omega), nI_clamp (by omega), h8.1.1, if_neg (show ¬ nI o = (20 : Int32) from fun q => hno ((nI_eq (a := o) (b := 20) (by have := h8.1.2; omega) (by omega)).mp q))]
  | succ k ih =>
    intro n f Y hf h
    obtain ⟨f, rfl⟩ : ∃ z, f = z + 1 := ⟨f - 1, by omega⟩
    rw [List.replicate_succ, List.cons_append] at h
    have h' := h
    obtain ⟨-, -, -, -, ⟨h8, h9, h10⟩, ⟨h11, -, -⟩, -, -, -⟩ := h
    rw [List.cons_append] at h8 h9 h10
    rw [List.length_cons] at h9 h10
    obtain ⟨Y1, a1, a2, a3⟩ := h'.pop (Or.inl rfl) ht
    rw [if_pos rfl] at a1
    obtain ⟨Y2, b1, b2, b3⟩ := ih (n + 1) f Y1 (by omega) a2
    have a1' : fX13_code (20 : Int32) 0 0 (mx_si (mx_si Y 0 45 (nI ((List.replicate k 20 ++ π) ++ σ).length)) 0 46 (nI (d + cN (List.replicate k 20 ++ π)))) = some Y1 := a1
    refine ⟨Y2, ?_, by rw [show n + (k + 1) = n + 1 + k by omega]; exact b2, a3.tr b3⟩
    rw [cN, if_pos rfl, show d + (1 + cN (List.replicate k 20 ++ π)) = d + cN (List.replicate k 20 ++ π) + 1 by omega] at h11
    rw [fX13_nots_0, h9, if_neg (nI_nle (by omega) (by omega)), nI_pred, pb_gd (by omega) (by omega), nI_clamp (by omega), h8.1.1, if_pos (show nI 20 = (20 : Int32) from rfl), si_nj (by omega), h11, nI_pred, a1']
    simp only [pb_bs]
    exact b1
theorem m_joins {T : TX} {P N s t ones d : Nat} {σ : List Nat} {wh : Bool} {X : MM} {tl : Nat} (htl : tl = 21 ∨ tl = 22) (ht : 1 ≤ t) (hh : ∀ o τ, σ = o :: τ → o ≠ 21 ∧ (o = 22 → tl = 21)) : ∀ (π : List Nat) n f Y, π.length < f → (∀ o, o ∈ π → o = 21 ∨ (o = 22 ∧ tl = 22)) → SR T P N s n t ones d σ π wh X Y → ∃ Y', fX13_joins_0 (nI tl) f Y = some Y' ∧ SR T P N s (n + π.length) t ones d σ [] wh X Y' ∧ WY Y Y' := by
  intro π
  induction π with
  | nil =>
    intro n f Y hf _ h
    obtain ⟨f, rfl⟩ : ∃ z, f = z + 1 := ⟨f - 1, by omega⟩
    have h' := h
    obtain ⟨-, -, -, -, ⟨h8, h9, h10⟩, -, -, -, -⟩ := h
    rw [List.nil_append] at h8 h9 h10
    refine ⟨Y, ?_, h', WY.rf⟩
    rw [fX13_joins_0, h9]
    cases hl : σ with
    | nil => rw [List.length_nil, if_pos (by decide)]
    | cons o τ =>
      have hno := hh o τ hl
      rw [hl] at h8 h9 h10
      rw [List.length_cons] at h10
      have o100 := h8.1.2
      rw [List.length_cons, if_neg (nI_nle (by omega) (by omega)), nI_pred, pb_gd (by omega) (by omega), pb_gd (by omega) (by omega), nI_clamp (by omega), h8.1.1, if_neg (show ¬ nI o = (21 : Int32) from fun q => hno.1 ((nI_eq (a := o) (b := 21) (by omega) (by omega)).mp q))]
      by_cases o22 : o = 22
      · have := hno.2 o22
        rw [if_pos (by rw [o22]; rfl), if_neg (by rw [this]; decide)]
      · rw [if_neg (show ¬ nI o = (22 : Int32) from fun q => o22 ((nI_eq (a := o) (b := 22) (by omega) (by omega)).mp q))]
  | cons o π ih =>
    intro n f Y hf ho h
    obtain ⟨f, rfl⟩ : ∃ z, f = z + 1 := ⟨f - 1, by omega⟩
    rw [List.length_cons] at hf
    have h' := h
    obtain ⟨-, -, -, -, ⟨h8, h9, h10⟩, -, -, -, -⟩ := h
    rw [List.cons_append] at h8 h9 h10
    rw [List.length_cons] at h9 h10
    have oo := ho o List.mem_cons_self
    obtain ⟨Y1, a1, a2, a3⟩ := h'.pop (by omega) ht
    rw [if_neg (by omega)] at a1
    obtain ⟨Y2, b1, b2, b3⟩ := ih (n + 1) f Y1 (by omega) (fun p hp => ho p (List.mem_cons_of_mem _ hp)) a2
    refine ⟨Y2, ?_, by rw [List.length_cons, show n + (π.length + 1) = n + 1 + π.length by omega]; exact b2, a3.tr b3⟩
    have j45 : fX13_joins_45 (nI tl) (fX13_joins_0 (nI tl) f) Y = some Y2 := by
      have st : (mx_si Y 0 45 (nI (π ++ σ).length)).1 17 (π ++ σ).length = nI o := by rw [si_nk (by omega)]; exact h8.1.1
      rw [fX13_joins_45, h9, nI_pred, si_eq, pb_gd (by omega) (by omega), nI_clamp (by omega), st, a1]
      simp only [pb_bs]
      exact b1
    rw [fX13_joins_0, h9, if_neg (nI_nle (by omega) (by omega)), nI_pred, pb_gd (by omega) (by omega), pb_gd (by omega) (by omega), nI_clamp (by omega), h8.1.1, j45]
    rcases oo with rfl | ⟨rfl, rfl⟩
    · rw [if_pos (show nI 21 = (21 : Int32) from rfl)]
    · rw [if_neg (by decide), if_pos (show nI 22 = (22 : Int32) from rfl), if_pos (show nI 22 = (22 : Int32) from rfl)]
