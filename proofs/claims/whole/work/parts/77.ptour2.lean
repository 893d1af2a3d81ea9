/-! tours: the reference goes through all orders -/
def rep (G : Nat → Int32) (l : List Nat) : Prop := ∀ k x, l[k]? = some x → G k = nI x
theorem ix1 {a r : List Nat} {x : Nat} : (a ++ x :: r)[a.length]? = some x := by
  rw [List.getElem?_append_right (Nat.le_refl _), Nat.sub_self]; rfl
theorem ix2 {a b c : List Nat} {x y : Nat} : (a ++ x :: (b ++ y :: c))[a.length + 1 + b.length]? = some y := by
  rw [List.getElem?_append_right (by omega), show a.length + 1 + b.length - a.length = b.length + 1 by omega, List.getElem?_cons_succ, ix1]
theorem ix3 {a r : List Nat} {x t : Nat} : (a ++ x :: r)[a.length + 1 + t]? = r[t]? := by
  rw [List.getElem?_append_right (by omega), show a.length + 1 + t - a.length = t + 1 by omega, List.getElem?_cons_succ]
theorem rep_swap {G : Nat → Int32} {a b c : List Nat} {x y : Nat} (h : rep G (a ++ x :: (b ++ y :: c))) : rep (upd (upd G a.length (G (a.length + 1 + b.length))) (a.length + 1 + b.length) (G a.length)) (a ++ y :: (b ++ x :: c)) := by
  have hx := h _ _ (ix1 (r := b ++ y :: c))
  have hy := h _ _ ix2
  intro k z hz
  by_cases k2 : k = a.length + 1 + b.length
  · subst k2
    rw [ix2] at hz
    cases hz
    rw [pk_us, hx]
  · rw [pk_un k2]
    by_cases k1 : k = a.length
    · subst k1
      rw [ix1] at hz
      cases hz
      rw [pk_us, hy]
    · rw [pk_un k1]
      apply h k z
      rw [← hz, List.getElem?_append, List.getElem?_append]
      split
      · rfl
      · rw [List.getElem?_cons, List.getElem?_cons]
        split
        · omega
        · rw [List.getElem?_append, List.getElem?_append]
          split
          · rfl
          · rw [List.getElem?_cons, List.getElem?_cons]
            split
            · omega
            · rfl
theorem m1_le : ∀ k, k < 9 → nI k + (-1 : Int32) ≤ nI k := by decide
theorem m_100 {Y : MM} {i1 : Int32} : ∀ (m : Nat) (a M c : List Nat) (G : Nat → Int32) (f : Nat), M.length ≤ m → (a ++ (M ++ c)).length ≤ 7 → m < f → rep G (a ++ (M ++ c)) → ∃ G', fX13_reorders_100 i1 f (nI a.length) (nI (a.length + M.length) + (-1 : Int32)) (sR 9 Y G) = some (true, sR 9 Y G') ∧ rep G' (a ++ (M.reverse ++ c)) := by
  intro m
  induction m with
  | zero =>
    intro a M c G f hm hl hf h
    obtain ⟨f, rfl⟩ : ∃ z, f = z + 1 := ⟨f - 1, by omega⟩
    have : M = [] := List.length_eq_zero_iff.mp (by omega)
    subst this
    refine ⟨G, ?_, h⟩
    rw [fX13_reorders_100]
    simp only [List.length_append, List.length_nil] at hl
    rw [List.length_nil, Nat.add_zero, if_pos (m1_le _ (by omega))]
  | succ m ih =>
    intro a M c G f hm hl hf h
    obtain ⟨f, rfl⟩ : ∃ z, f = z + 1 := ⟨f - 1, by omega⟩
    simp only [List.length_append] at hl
    cases M with
    | nil =>
      refine ⟨G, ?_, h⟩
      simp only [List.length_nil] at hl
      rw [fX13_reorders_100, List.length_nil, Nat.add_zero, if_pos (m1_le _ (by omega))]
    | cons x M2 =>
      rcases List.eq_nil_or_concat M2 with rfl | ⟨M', y, rfl⟩
      · refine ⟨G, ?_, h⟩
        rw [fX13_reorders_100, List.length_singleton, pk_m1, if_pos (Int32.le_refl _)]
      · simp only [List.concat_eq_append] at h hl hm ⊢
        simp only [List.length_cons, List.length_append, List.length_nil] at hl hm
        have hl' : a.length + (x :: (M' ++ [y])).length = a.length + 1 + M'.length + 1 := by simp; omega
        have h' : rep G (a ++ x :: (M' ++ y :: c)) := by
          have e : a ++ (x :: (M' ++ [y]) ++ c) = a ++ x :: (M' ++ y :: c) := by simp
          rw [← e]; exact h
        have h2 := rep_swap h'
        rw [hl', pk_m1, fX13_reorders_100, if_neg (nI_ge (by omega) (by omega)), pb_gd (by omega) (by omega), pb_gd (by omega) (by omega), pb_gd (by omega) (by omega), pb_gd (by omega) (by omega), nI_clamp (by omega), nI_clamp (by omega), sR_c, sR_i, sR_i, nI_1]
        obtain ⟨G', g1, g2⟩ := ih (a ++ [y]) M' (x :: c) _ f (by omega) (by simp; omega) (by omega) (by
          have e : a ++ [y] ++ (M' ++ x :: c) = a ++ y :: (M' ++ x :: c) := by simp
          rw [e]; exact h2)
        refine ⟨G', ?_, ?_⟩
        · rw [← g1]
          simp
        · have e : a ++ ((x :: (M' ++ [y])).reverse ++ c) = a ++ [y] ++ (M'.reverse ++ x :: c) := by simp
          rw [e]; exact g2
theorem m_41 {Y : MM} {i1 : Int32} {G : Nat → Int32} {a b d : List Nat} {x y : Nat} (hl : (a ++ x :: (b ++ y :: d)).length ≤ 7) (h : rep G (a ++ x :: (b ++ y :: d))) (hxy : x < y) (hd : ∀ z, z ∈ d → z < x) (hb : x < 100 ∧ y < 100) : ∀ t f, t ≤ d.length → t < f → fX13_reorders_41 i1 (nI a.length) f (nI (a.length + 1 + b.length + t)) (sR 9 Y G) = fX13_reorders_100 i1 mx_fu (nI (a.length + 1)) (i1 - (1 : Int32)) (sR 9 Y (upd (upd G a.length (G (a.length + 1 + b.length))) (a.length + 1 + b.length) (G a.length))) := by
  simp only [List.length_append, List.length_cons] at hl
  have hx := h _ _ (ix1 (r := b ++ y :: d))
  intro t
  induction t with
  | zero =>
    intro f _ hf
    obtain ⟨f, rfl⟩ : ∃ z, f = z + 1 := ⟨f - 1, by omega⟩
    have hy := h _ _ ix2
    rw [show a.length + 1 + b.length + 0 = a.length + 1 + b.length from rfl, fX13_reorders_41, pb_gd (by omega) (by omega), pb_gd (by omega) (by omega), nI_clamp (by omega), nI_clamp (by omega), sR_c, hx, hy, if_pos (nI_le (by omega) (by omega)), pb_gd (by omega) (by omega), pb_gd (by omega) (by omega), pb_gd (by omega) (by omega), pb_gd (by omega) (by omega), sR_i, sR_i, nI_1]
  | succ t ih =>
    intro f ht hf
    obtain ⟨f, rfl⟩ : ∃ z, f = z + 1 := ⟨f - 1, by omega⟩
    have hz : G (a.length + 1 + b.length + (t + 1)) = nI (d[t]'(by omega)) := h _ _ (by
      have e : a ++ x :: (b ++ y :: d) = (a ++ x :: b) ++ y :: d := by simp
      have e2 : a.length + 1 + b.length + (t + 1) = (a ++ x :: b).length + 1 + t := by simp; omega
      rw [e, e2, ix3]
      exact List.getElem?_eq_getElem (by omega))
    have hlt := hd _ (List.getElem_mem (show t < d.length by omega))
    have ih' := ih f (by omega) (by omega)
    generalize hj : a.length + 1 + b.length + t = j at ih'
    have hj2 : a.length + 1 + b.length + (t + 1) = j + 1 := by omega
    rw [hj2] at hz ⊢
    rw [hx] at ih'
    rw [fX13_reorders_41, pb_gd (by omega) (by omega), pb_gd (by omega) (by omega), nI_clamp (by omega), nI_clamp (by omega), sR_c, hx, hz, if_neg (nI_ge hlt (by omega)), pk_m1]
    exact ih'
theorem m_4 {Y : MM} {i1 : Int32} {G : Nat → Int32} {a T : List Nat} {x : Nat} (hl : (a ++ x :: T).length ≤ 7) (h : rep G (a ++ x :: T)) (hb : x < 100 ∧ ∀ z, z ∈ T → z < 100) (h0 : ∀ z, T[0]? = some z → x < z) (hT : ∀ t u v, T[t]? = some u → T[t + 1]? = some v → v < u) : ∀ t f, t < T.length → t < f → fX13_reorders_4 i1 f (nI (a.length + t)) (sR 9 Y G) = fX13_reorders_31 i1 (nI a.length) (sR 9 Y G) := by
  simp only [List.length_append, List.length_cons] at hl
  have hx := h _ _ (ix1 (r := T))
  have hG : ∀ t (ht : t < T.length), G (a.length + 1 + t) = nI T[t] := fun t ht => h _ _ (by rw [ix3]; exact List.getElem?_eq_getElem ht)
  intro t
  induction t with
  | zero =>
    intro f ht hf
    obtain ⟨f, rfl⟩ : ∃ z, f = z + 1 := ⟨f - 1, by omega⟩
    have h1 := hG 0 ht
    have h2 := h0 _ (List.getElem?_eq_getElem ht)
    have h3 := hb.2 _ (List.getElem_mem ht)
    rw [show a.length + 1 + 0 = a.length + 1 from rfl] at h1
    rw [show a.length + 0 = a.length from rfl, fX13_reorders_4, if_neg (nI_pos (by omega)), nI_1, pb_gd (by omega) (by omega), pb_gd (by omega) (by omega), nI_clamp (by omega), nI_clamp (by omega), sR_c, hx, h1, if_pos (nI_le (by omega) (by omega))]
  | succ t ih =>
    intro f ht hf
    obtain ⟨f, rfl⟩ : ∃ z, f = z + 1 := ⟨f - 1, by omega⟩
    have h1 := hG t (by omega)
    have h2 := hG (t + 1) ht
    have h3 := hT t _ _ (List.getElem?_eq_getElem (show t < T.length by omega)) (List.getElem?_eq_getElem ht)
    have h4 := hb.2 _ (List.getElem_mem (show t < T.length by omega))
    rw [fX13_reorders_4, if_neg (nI_pos (by omega)), nI_1, pb_gd (by omega) (by omega), pb_gd (by omega) (by omega), nI_clamp (by omega), nI_clamp (by omega), sR_c, show a.length + (t + 1) = a.length + 1 + t by omega, h1, show a.length + 1 + t + 1 = a.length + 1 + (t + 1) by omega, h2, if_neg (nI_ge h3 (by omega)), show a.length + 1 + t = a.length + t + 1 by omega, pk_m1]
    exact ih f (by omega) (by omega)
theorem pw_adj {T : List Nat} (h : T.Pairwise (fun a b => b < a)) : ∀ t u v, T[t]? = some u → T[t + 1]? = some v → v < u := by
  intro t u v h1 h2
  obtain ⟨i1, e1⟩ := List.getElem?_eq_some_iff.mp h1
  obtain ⟨i2, e2⟩ := List.getElem?_eq_some_iff.mp h2
  have := List.pairwise_iff_getElem.mp h t (t + 1) i1 i2 (by omega)
  rw [e1, e2] at this
  exact this
/-- the next order -/
theorem reo_step {Y : MM} {G : Nat → Int32} {p A B : List Nat} {q q' : Nat} (hl : (p ++ q :: (A ++ q' :: B)).length ≤ 7) (hs : (A ++ q :: q' :: B).Pairwise (· < ·)) (hb : ∀ z, z ∈ A ++ q :: q' :: B → z < 100) (h : rep G (p ++ q :: (A ++ q' :: B).reverse)) : ∃ G', fX13_reorders (nI (p ++ q :: (A ++ q' :: B)).length) (sR 9 Y G) = some (true, sR 9 Y G') ∧ rep G' (p ++ q' :: (A ++ q :: B)) := by
  have eT : (A ++ q' :: B).reverse = B.reverse ++ q' :: A.reverse := by simp
  rw [eT] at h
  have hA : ∀ z, z ∈ A → z < q := fun z hz => (List.pairwise_append.mp hs).2.2 z hz q (by simp)
  have hs2 := (List.pairwise_append.mp hs).2.1
  have hqq : q < q' := (List.pairwise_cons.mp hs2).1 q' (by simp)
  have hqB : ∀ z, z ∈ B → q < z := fun z hz => (List.pairwise_cons.mp hs2).1 z (by simp [hz])
  have hT : (B.reverse ++ q' :: A.reverse).Pairwise (fun a b => b < a) := by
    rw [← eT, List.pairwise_reverse]
    have h1 := List.pairwise_append.mp hs
    refine List.pairwise_append.mpr ⟨h1.1, (List.pairwise_cons.mp h1.2.1).2, fun a ha b hb' => h1.2.2 a ha b (by simp at hb' ⊢; exact Or.inr hb')⟩
  have hbz : ∀ z, z ∈ B.reverse ++ q' :: A.reverse → z < 100 := fun z hz => hb z (by simp at hz ⊢; rcases hz with e | e | e <;> simp [e])
  have hlen : (p ++ q :: (A ++ q' :: B)).length = p.length + 1 + (A.length + 1 + B.length) := by simp; omega
  rw [hlen] at hl ⊢
  have hlT : (p ++ q :: (B.reverse ++ q' :: A.reverse)).length ≤ 7 := by simp; omega
  have h4 := m_4 (Y := Y) (i1 := nI (p.length + 1 + (A.length + 1 + B.length))) hlT h ⟨hb q (by simp), hbz⟩ (fun z hz => by
    have hz' := List.mem_of_getElem? hz
    simp at hz'
    rcases hz' with e | e | e
    · exact hqB z e
    · subst e; exact hqq
    · have := hA z e
      exfalso
      cases hB : B.reverse with
      | nil => rw [hB] at hz; simp at hz; omega
      | cons u v =>
        rw [hB] at hz
        simp at hz
        subst hz
        have : u ∈ B := by rw [← List.mem_reverse, hB]; simp
        have := hqB u this
        omega) (pw_adj hT) (A.length + B.length) mx_fu (by simp; omega) (by unfold mx_fu; omega)
  have h41 := m_41 (Y := Y) (i1 := nI (p.length + 1 + (A.length + 1 + B.length))) hlT h hqq (fun z hz => hA z (by simpa using hz)) ⟨hb q (by simp), hb q' (by simp)⟩ A.length mx_fu (by simp) (by unfold mx_fu; omega)
  rw [List.length_reverse] at h41
  have h2 := rep_swap h
  rw [List.length_reverse] at h2
  obtain ⟨G', g1, g2⟩ := m_100 (Y := Y) (i1 := nI (p.length + 1 + (A.length + 1 + B.length))) (A.length + 1 + B.length) (p ++ [q']) (B.reverse ++ q :: A.reverse) [] _ mx_fu (by simp; omega) (by simp; omega) (by unfold mx_fu; omega) (by
    have e : p ++ [q'] ++ (B.reverse ++ q :: A.reverse ++ []) = p ++ q' :: (B.reverse ++ q :: A.reverse) := by simp
    rw [e]; exact h2)
  refine ⟨G', ?_, ?_⟩
  · have e2 : nI (p.length + 1 + (A.length + 1 + B.length)) - (2 : Int32) = nI (p.length + (A.length + B.length)) := by
      rw [c2, pk_sub (by omega)]; congr 1; omega
    have e1 : nI (p.length + 1 + (A.length + 1 + B.length)) - (1 : Int32) = nI (p.length + 1 + B.length + A.length) := by
      rw [c1, pk_sub (by omega)]; congr 1; omega
    have e3 : nI (p ++ [q']).length = nI (p.length + 1) := by simp
    have e4 : nI ((p ++ [q']).length + (B.reverse ++ q :: A.reverse).length) + (-1 : Int32) = nI (p.length + 1 + B.length + A.length) := by
      rw [show (p ++ [q']).length + (B.reverse ++ q :: A.reverse).length = p.length + 1 + B.length + A.length + 1 by simp; omega, pk_m1]
    rw [e3, e4] at g1
    rw [e1] at h41
    rw [fX13_reorders, e2, h4, fX13_reorders_31, if_pos (nI_pos' (by omega)), e1, h41, g1]
  · have e : p ++ [q'] ++ ((B.reverse ++ q :: A.reverse).reverse ++ []) = p ++ q' :: (A ++ q :: B) := by simp
    rw [← e]; exact g2
/-- the last order -/
theorem reo_last {Y : MM} {G : Nat → Int32} {T : List Nat} (hl : T.length ≤ 7) (hs : T.Pairwise (fun a b => b < a)) (hb : ∀ z, z ∈ T → z < 100) (h : rep G T) : fX13_reorders (nI T.length) (sR 9 Y G) = some (false, sR 9 Y G) := by
  have hG : ∀ t (ht : t < T.length), G t = nI T[t] := fun t ht => h _ _ (List.getElem?_eq_getElem ht)
  have key : ∀ t f, t + 1 ≤ T.length → t < f → fX13_reorders_4 (nI T.length) f (nI t + (-1 : Int32)) (sR 9 Y G) = some (false, sR 9 Y G) := by
    intro t
    induction t with
    | zero =>
      intro f _ hf
      obtain ⟨f, rfl⟩ : ∃ z, f = z + 1 := ⟨f - 1, by omega⟩
      rw [fX13_reorders_4, if_pos (by decide), fX13_reorders_31, if_neg (by decide)]
    | succ t ih =>
      intro f ht hf
      obtain ⟨f, rfl⟩ : ∃ z, f = z + 1 := ⟨f - 1, by omega⟩
      have h3 := pw_adj hs t _ _ (List.getElem?_eq_getElem (show t < T.length by omega)) (List.getElem?_eq_getElem (show t + 1 < T.length by omega))
      have h4 := hb _ (List.getElem_mem (show t < T.length by omega))
      rw [pk_m1, fX13_reorders_4, if_neg (nI_pos (by omega)), nI_1, pb_gd (by omega) (by omega), pb_gd (by omega) (by omega), nI_clamp (by omega), nI_clamp (by omega), sR_c, hG t (by omega), hG (t + 1) (by omega), if_neg (nI_ge h3 (by omega))]
      exact ih f (by omega) (by omega)
  rw [fX13_reorders]
  by_cases e : T.length = 0
  · rw [e]
    show fX13_reorders_4 (nI 0) (9999 + 1) (nI 0 - (2 : Int32)) (sR 9 Y G) = _
    rw [fX13_reorders_4, if_pos (by decide), fX13_reorders_31, if_neg (by decide)]
  · obtain ⟨n, hn⟩ : ∃ n, T.length = n + 1 := ⟨T.length - 1, by omega⟩
    have e2 : nI T.length - (2 : Int32) = nI n + (-1 : Int32) := by
      rw [hn]
      have : ∀ n, n < 8 → nI (n + 1) - (2 : Int32) = nI n + (-1 : Int32) := by decide
      exact this n (by omega)
    rw [e2]
    exact key n mx_fu (by omega) (by unfold mx_fu; omega)
