/-! keepers: toGive, the class's table as a whole, following -/
theorem tl_mem {S : Nat → Int32} : ∀ c r x, x ∈ tl S c r → r ≤ x ∧ x < r + c := by
  intro c
  induction c with
  | zero => intro r x h; rw [tl] at h; cases h
  | succ c ih =>
    intro r x h
    rw [tl] at h
    split at h
    · rcases List.mem_cons.mp h with e | e
      · subst e; omega
      · have := ih (r + 1) x e; omega
    · have := ih (r + 1) x h; omega
theorem tl_len {S : Nat → Int32} : ∀ c r, (tl S c r).length ≤ c := by
  intro c
  induction c with
  | zero => intro r; exact Nat.le_refl _
  | succ c ih =>
    intro r
    rw [tl]
    split
    · rw [List.length_cons]; have := ih (r + 1); omega
    · have := ih (r + 1); omega
theorem kGive_iff {X : MM} {G : List Nat} : kGive X G ↔ ∀ i r, G[i]? = some r → X.1 148 i = nI r := by
  constructor
  · intro h i r e
    obtain ⟨hi, er⟩ := List.getElem?_eq_some_iff.mp e
    rw [h i hi, er]
  · intro h i hi
    exact h i _ (List.getElem?_eq_getElem hi)
theorem x_give {P N : Nat} {X : MM} {S : Nat → Int32} (hL : wLd S P N) (hX : rLd X S P N) (hR : rSt 29 X S P N) :
    ∀ c r n G0 F, r + c = N → c < n → G0.length + c ≤ 7 → (∀ i x, G0[i]? = some x → F i = nI x) → ∃ F', fX6_planKeepers_4 n (nI G0.length) (nI r) (sR 148 X F) = fX6_planKeepers_53 (nI (G0 ++ tl S c r).length) mx_fu (((1 : Int32) <<< (nI P &&& 31)) - 1) (sR 148 X F') ∧ ∀ i x, (G0 ++ tl S c r)[i]? = some x → F' i = nI x := by
  have hP := hL.2.1
  have hN := hL.2.2.2.1
  have hx1 : X.1 9 1 = nI N := hX.2.1.trans hL.2.2.1
  have hx0 : X.1 9 0 = nI P := hX.1.trans hL.1
  intro c
  induction c with
  | zero =>
    intro r n G0 F hr hn hG hF
    obtain ⟨n, rfl⟩ : ∃ z, n = z + 1 := ⟨n - 1, by omega⟩
    refine ⟨F, ?_, ?_⟩
    · rw [fX6_planKeepers_4, sR_n (by omega), sR_n (by omega), hx1, hx0, if_pos (nI_le (by omega) (by omega)), tl, List.append_nil]
    · rw [tl, List.append_nil]; exact hF
  | succ c ih =>
    intro r n G0 F hr hn hG hF
    obtain ⟨n, rfl⟩ : ∃ z, n = z + 1 := ⟨n - 1, by omega⟩
    have h34 : X.1 34 r = S (85 + r) := (hR.2.2.2.2 r (by omega)).1
    rw [fX6_planKeepers_4, sR_n (by omega), sR_n (by omega), hx1, if_neg (nI_ge (by omega) (by omega)), if_pos (pb_in (show r < 7 by omega) (by omega)), nI_clamp (show r < 2 ^ 31 by omega), h34, nI_1, nI_1]
    rcases Bool.eq_false_or_eq_true (notL S r) with h | h
    · have h' : ¬ S (85 + r) = 2 := by simpa [notL] using h
      rw [if_neg h', if_pos (pb_in (show G0.length < 7 by omega) (by omega)), nI_clamp (show G0.length < 2 ^ 31 by omega), sR_i]
      obtain ⟨F', a, b⟩ := ih (r + 1) n (G0 ++ [r]) (upd F G0.length (nI r)) (by omega) (by omega) (by simp; omega) (fun i x hi => by
        by_cases e : i = G0.length
        · subst e
          rw [List.getElem?_append_right (Nat.le_refl _)] at hi
          simp at hi
          rw [pk_us, hi]
        · rw [pk_un e]
          by_cases e2 : i < G0.length
          · rw [List.getElem?_append_left e2] at hi
            exact hF i x hi
          · rw [List.getElem?_eq_none (by simp; omega)] at hi
            cases hi)
      have et : tl S (c + 1) r = r :: tl S c (r + 1) := by rw [tl, h, if_pos rfl]
      rw [et]
      have ea : G0 ++ r :: tl S c (r + 1) = (G0 ++ [r]) ++ tl S c (r + 1) := by simp
      rw [ea]
      refine ⟨F', ?_, b⟩
      rw [← a]
      congr 1
      simp
    · have h' : S (85 + r) = 2 := by simpa [notL] using h
      have et : tl S (c + 1) r = tl S c (r + 1) := by rw [tl, h]; rfl
      rw [if_pos h', et]
      exact ih (r + 1) n G0 F (by omega) (by omega) (by omega) hF
theorem shP : ∀ P, P < 8 → ((1 : Int32) <<< (nI P &&& 31)) - 1 = nI (2 ^ P) + (-1 : Int32) := by decide +kernel
theorem x_53 {P N : Nat} {X : MM} {S : Nat → Int32} {G : List Nat} (hL : wLd S P N) (hW : wSt S P N) (hX : rLd X S P N) (hR : rSt 29 X S P N) (hG : kGive X G) (hG7 : G.length ≤ 7) (hGr : ∀ r ∈ G, r < N) :
    ∀ c n F, c ≤ 2 ^ P → c < n → (∀ u, c ≤ u → u < 2 ^ P → F u = nI (ckL S P (G.drop (popc u)) u)) → ∃ F', fX6_planKeepers_53 (nI G.length) n (nI c + (-1 : Int32)) (sR 147 X F) = (if F' 0 < 1000000 then (fX6_followKeepers (nI G.length) (sR 147 X F')).bind fun q => some (q.1 147 0, q) else some (-1, sR 147 X F')) ∧ ∀ u, u < 2 ^ P → F' u = nI (ckL S P (G.drop (popc u)) u) := by
  have hP := hL.2.1
  have h128 : 2 ^ P ≤ 2 ^ 7 := Nat.pow_le_pow_right (by omega) hP
  intro c
  induction c with
  | zero =>
    intro n F _ hn h
    obtain ⟨n, rfl⟩ : ∃ z, n = z + 1 := ⟨n - 1, by omega⟩
    refine ⟨F, ?_, fun u hu => h u (by omega) hu⟩
    rw [fX6_planKeepers_53, if_pos (by decide), sR_c]
  | succ c ih =>
    intro n F hc hn h
    obtain ⟨n, rfl⟩ : ∃ z, n = z + 1 := ⟨n - 1, by omega⟩
    have hX' : rLd (sR 147 X F) S P N := by
      rw [← rLo_9]; exact rLo_fr (fun k a b => sR_n (by omega)) hP hL.2.2.2.1 (fun _ _ => rfl) hX
    have hR' : rSt 29 (sR 147 X F) S P N := rSt_fr (fun k a b => sR_n (by omega)) hR
    have hG' : kGive (sR 147 X F) G := fun i hi => by rw [sR_n (by omega)]; exact hG i hi
    rw [pk_m1, fX6_planKeepers_53, if_neg (nI_pos (by omega)), x_leastK hL hW hX' hR' hG' hG7 hGr (by omega) (fun u u1 u2 => by rw [sR_c]; exact h u (by omega) u2)]
    simp only [pb_bs]
    rw [pb_gd (by omega) (by omega), nI_clamp (by omega), sR_i]
    refine ih n _ (by omega) (by omega) (fun u u1 u2 => ?_)
    by_cases e : u = c
    · subst e; rw [pk_us]
    · rw [pk_un e]; exact h u (by omega) u2
/-! the first that is as good as the best -/
def fndL (S : Nat → Int32) (P r : Nat) (l : List Nat) (set q : Nat) : Bool := okL S r set q && decide (frN S q (own S r) + ckL S P l (set ||| 2 ^ q) = ckL S P (r :: l) set)
theorem stL_ex {S : Nat → Int32} {f : Nat → Nat} {r set : Nat} : ∀ c k a, pfor (stL S f r set) k c a = a ∨ ∃ q, k ≤ q ∧ q < k + c ∧ okL S r set q = true ∧ frN S q (own S r) + f (set ||| 2 ^ q) = pfor (stL S f r set) k c a := by
  intro c
  induction c with
  | zero => intro k a; exact Or.inl rfl
  | succ c ih =>
    intro k a
    rw [pfor]
    rcases ih (k + 1) (stL S f r set k a) with h | ⟨q, h1, h2, h3, h4⟩
    · rw [h]
      unfold stL
      rcases Bool.eq_false_or_eq_true (okL S r set k) with e | e
      · rw [e, if_pos rfl]
        rcases Nat.le_total a (frN S k (own S r) + f (set ||| 2 ^ k)) with hm | hm
        · exact Or.inl (Nat.min_eq_left hm)
        · exact Or.inr ⟨k, Nat.le_refl _, by omega, e, (Nat.min_eq_right hm).symm⟩
      · rw [e]; exact Or.inl rfl
    · exact Or.inr ⟨q, by omega, by omega, h3, h4⟩
theorem fnd_lt {S : Nat → Int32} {P r set : Nat} {l : List Nat} (h : ckL S P (r :: l) set < 1000000) : pfst (fndL S P r l set) 0 P < P ∧ okL S r set (pfst (fndL S P r l set) 0 P) = true ∧ ckL S P l (set ||| 2 ^ pfst (fndL S P r l set) 0 P) < 1000000 := by
  have hlt : pfst (fndL S P r l set) 0 P < P := by
    rcases stL_ex (S := S) (f := ckL S P l) (r := r) (set := set) P 0 1000000 with e | ⟨q, q1, q2, q3, q4⟩
    · rw [ckL, e] at h; omega
    · have hq : fndL S P r l set q = true := by
        unfold fndL
        rw [q3, ckL, q4]; simp
      have := pfst_le (fndL S P r l set) P 0
      have hne : ¬ pfst (fndL S P r l set) 0 P = 0 + P := fun e => by
        have := (pfst_all (fndL S P r l set) P 0).mp e q (by omega) q2
        rw [hq] at this; cases this
      omega
  have his := pfst_is (fndL S P r l set) P 0 (by omega)
  simp only [fndL, Bool.and_eq_true, decide_eq_true_eq] at his
  exact ⟨hlt, his.1, by omega⟩
theorem loop_find {ρ : Type} {F : Nat → Nat → Option ρ} {f : Nat → Bool} {N : Nat} {fin : Nat → Option ρ} (hs : ∀ n k, k < N → F (n + 1) k = if f k then fin k else F n (k + 1)) :
    ∀ c k n, k + c = N → c ≤ n → pfst f k c < N → F n k = fin (pfst f k c) := by
  intro c
  induction c with
  | zero => intro k n hk _ h; rw [pfst] at h; omega
  | succ c ih =>
    intro k n hk hn h
    obtain ⟨n, rfl⟩ : ∃ z, n = z + 1 := ⟨n - 1, by omega⟩
    rw [hs n k (by omega)]
    rw [pfst] at h ⊢
    by_cases e : f k = true
    · rw [if_pos e, if_pos e]
    · rw [if_neg e, if_neg e]
      rw [if_neg e] at h
      exact ih (k + 1) n (by omega) (by omega) h
theorem x_firstK {r set P N : Nat} {X : MM} {S : Nat → Int32} {l : List Nat} (hL : wLd S P N) (hW : wSt S P N) (hX : rLd X S P N) (hR : rSt 29 X S P N) (hr : r < N) (hs : set < 2 ^ P) (ht : X.1 147 set = nI (ckL S P (r :: l) set)) (hT : ∀ q, q < P → okL S r set q = true → X.1 147 (set ||| 2 ^ q) = nI (ckL S P l (set ||| 2 ^ q))) (h : ckL S P (r :: l) set < 1000000) : fX6_firstKeeper (nI set) (nI r) X = some (nI (pfst (fndL S P r l set) 0 P)) := by
  have hP := hL.2.1
  have h128 : 2 ^ P ≤ 2 ^ 7 := Nat.pow_le_pow_right (by omega) hP
  have key := loop_find (F := fun n k => fX6_firstKeeper_3 (nI set) (nI r) X n (nI k)) (f := fndL S P r l set) (N := P) (fin := fun k => some (nI k)) (fun n k hk => by
    show fX6_firstKeeper_3 (nI set) (nI r) X (n + 1) (nI k) = _
    have hle := ckL_le (S := S) (P := P) l (set ||| 2 ^ k)
    have hle2 := ckL_le (S := S) (P := P) (r :: l) set
    have hfr := (frN_eq hW hk (own_eq hL hr).2).2
    rw [fX6_firstKeeper_3, hX.1, hL.1, if_neg (nI_ge hk (by omega)), x_mayKeep hL hX hr hk (by omega), x_keepersBy hL hW hX hR hr hk (by omega)]
    simp only [pb_bs, nI_1, pb_in (show set < 128 by omega) (show 128 ≤ 1000000 by omega), ↓reduceIte, nI_clamp (show set < 2 ^ 31 by omega), ht]
    rcases Bool.eq_false_or_eq_true (okL S r set k) with e | e
    · have ef : fndL S P r l set k = decide (frN S k (own S r) + ckL S P l (set ||| 2 ^ k) = ckL S P (r :: l) set) := by unfold fndL; rw [e]; simp
      rw [e, if_neg b_t, hT k hk e, nI_add, ef]
      simp only [propext (nI_eq (a := frN S k (own S r) + ckL S P l (set ||| 2 ^ k)) (b := ckL S P (r :: l) set) (by omega) (by omega)), decide_eq_true_eq]
    · have ef : fndL S P r l set k = false := by unfold fndL; rw [e]; rfl
      rw [e, if_pos b_f, ef]; simp) P 0 mx_fu (by omega) (by unfold mx_fu; omega) (fnd_lt h).1
  exact key
theorem m_231 {r set P N : Nat} {Y : MM} {S : Nat → Int32} {i1 : Int32} {k200 : Int32 → Int32 → MM → Option (Int32 × MM)} {l : List Nat} (hS : Y.1 2 = S) (hL : wLd S P N) (hW : wSt S P N) (hr : r < N) (hs : set < 128) (ht : Y.1 11 (128 * r + set) = nI (ckL S P (r :: l) set)) (hT : ∀ q, q < P → Y.1 11 (128 * (r + 1) + (set ||| 2 ^ q)) = nI (ckL S P l (set ||| 2 ^ q))) (h : ckL S P (r :: l) set < 1000000) : fX13_keepers_231 i1 k200 mx_fu (nI set) (nI r) 0 Y = k200 (nI (set ||| 2 ^ pfst (fndL S P r l set) 0 P)) (nI (r + 1)) (mx_si Y 12 r (nI (pfst (fndL S P r l set) 0 P))) := by
  have hP := hL.2.1
  have hN := hL.2.2.2.1
  have key := loop_find (F := fun n k => fX13_keepers_231 i1 k200 n (nI set) (nI r) (nI k) Y) (f := fndL S P r l set) (N := P) (fin := fun k => k200 (nI (set ||| 2 ^ k)) (nI (r + 1)) (mx_si Y 12 r (nI k))) (fun n k hk => by
    show fX13_keepers_231 i1 k200 (n + 1) (nI set) (nI r) (nI k) Y = _
    have hle := ckL_le (S := S) (P := P) l (set ||| 2 ^ k)
    have hle2 := ckL_le (S := S) (P := P) (r :: l) set
    have hfr := (frN_eq hW hk (own_eq hL hr).2).2
    obtain ⟨o1, o2⟩ := bit_or set hs k (by omega)
    rw [fX13_keepers_231, m_canKeep (P := P) (N := N) (by rw [hS]; exact hL) hr hk hs, m_restBy (P := P) (N := N) (by rw [hS]; exact hL) (by rw [hS]; exact hW) hr hk hs, hS, hT k hk, nI_add, c128, nI_mul, nI_add, nI_clamp (show 128 * r + set < 2 ^ 31 by omega), ht, nI_clamp (show r < 2 ^ 31 by omega), o1]
    simp only [pb_bs, nI_1, pb_in (show 128 * r + set < 1024 by omega) (show 1024 ≤ 1000000 by omega), pb_in (show r < 7 by omega) (show 7 ≤ 1000000 by omega), ↓reduceIte, propext (nI_eq (a := frN S k (own S r) + ckL S P l (set ||| 2 ^ k)) (b := ckL S P (r :: l) set) (by omega) (by omega))]
    rcases Bool.eq_false_or_eq_true (okL S r set k) with e | e
    · have ef : fndL S P r l set k = decide (frN S k (own S r) + ckL S P l (set ||| 2 ^ k) = ckL S P (r :: l) set) := by unfold fndL; rw [e]; simp
      rw [e, if_neg b_t, ef]; simp only [decide_eq_true_eq]
    · have ef : fndL S P r l set k = false := by unfold fndL; rw [e]; rfl
      rw [e, if_pos b_f, ef]; simp) P 0 mx_fu (by omega) (by unfold mx_fu; omega) (fnd_lt h).1
  exact key
theorem fol {P N : Nat} {X0 Y0 : MM} {S : Nat → Int32} {G : List Nat} {T F : Nat → Int32} (hL : wLd S P N) (hW : wSt S P N) (hX0 : rLd X0 S P N) (hR0 : rSt 29 X0 S P N) (hY0 : Y0.1 2 = S) (hG : kGive X0 G) (hG7 : G.length ≤ 7) (hT0 : X0.1 147 = T) (hF0 : Y0.1 11 = F) (hT : ∀ u, u < 2 ^ P → T u = nI (ckL S P (G.drop (popc u)) u)) (hF : ∀ q, q ≤ N → kTab S P N q F) :
    ∀ c r k f g set A B, r + c = N → popc set = k → set < 2 ^ P → G.drop k = tl S c r → ckL S P (tl S c r) set < 1000000 → c < f → c < g → (∀ j, j < r → A j = B j) → (∀ j, r ≤ j → j < 7 → A j = -1) → ∃ A' B', fX6_followKeepers_26 (nI G.length) f (nI set) (nI k) (sR 145 X0 A) = some (sR 145 X0 A') ∧ fX13_keepers_200 (nI N) g (nI set) (nI r) (sR 12 Y0 B) = some (F 0, sR 12 Y0 B') ∧ (∀ j, j < N → A' j = B' j) ∧ (∀ j, N ≤ j → j < 7 → A' j = -1) := by
  have hP := hL.2.1
  have hN := hL.2.2.2.1
  have h128 : 2 ^ P ≤ 2 ^ 7 := Nat.pow_le_pow_right (by omega) hP
  intro c
  induction c with
  | zero =>
    intro r k f g set A B hr hp hs hd hc hf hg hA hA1
    obtain ⟨f, rfl⟩ : ∃ z, f = z + 1 := ⟨f - 1, by omega⟩
    obtain ⟨g, rfl⟩ : ∃ z, g = z + 1 := ⟨g - 1, by omega⟩
    rw [tl] at hd
    have hk : G.length ≤ k := List.drop_eq_nil_iff.mp hd
    have hp7 := bit_pop set (by omega)
    refine ⟨A, B, ?_, ?_, fun j hj => hA j (by omega), fun j j1 j2 => hA1 j (by omega) j2⟩
    · rw [fX6_followKeepers_26, if_pos (nI_le hk (by omega))]
    · rw [fX13_keepers_200, if_pos (nI_le (by omega) (by omega)), sR_n (by omega), hF0]
  | succ c ih =>
    intro r k f g set A B hr hp hs hd hc hf hg hA hA1
    obtain ⟨g, rfl⟩ : ∃ z, g = z + 1 := ⟨g - 1, by omega⟩
    have hp7 := bit_pop set (by omega)
    have e85 : (sR 12 Y0 (upd B r (-1))).1 2 (85 + r) = S (85 + r) := by rw [sR_n (by omega), hY0]
    rw [fX13_keepers_200, if_neg (nI_ge (by omega) (by omega)), pb_gd (by omega) (by omega), c85, nI_add, pb_gd (by omega) (by omega), nI_clamp (show r < 2 ^ 31 by omega), nI_clamp (by omega), sR_i, e85]
    rw [tl] at hd hc
    rcases Bool.eq_false_or_eq_true (notL S r) with h | h
    · have h' : ¬ S (85 + r) = 2 := by simpa [notL] using h
      rw [h, if_pos rfl] at hd hc
      obtain ⟨f, rfl⟩ : ∃ z, f = z + 1 := ⟨f - 1, by omega⟩
      have hk : k < G.length := by
        rcases Nat.lt_or_ge k G.length with e | e
        · exact e
        · rw [List.drop_eq_nil_of_le e] at hd; cases hd
      rw [List.drop_eq_getElem_cons hk] at hd
      have hd1 : G[k] = r := (List.cons.inj hd).1
      have hd2 : G.drop (k + 1) = tl S c (r + 1) := (List.cons.inj hd).2
      obtain ⟨q1, q2, q3⟩ := fnd_lt hc
      have hT1 : ∀ u, u < 2 ^ P → (sR 145 X0 A).1 147 u = nI (ckL S P (G.drop (popc u)) u) := fun u hu => by
        rw [sR_n (by omega), hT0]; exact hT u hu
      have hXA : rLd (sR 145 X0 A) S P N := by
        rw [← rLo_9]; exact rLo_fr (fun k a b => sR_n (by omega)) hP hN (fun _ _ => rfl) hX0
      have hRA : rSt 29 (sR 145 X0 A) S P N := rSt_fr (fun k a b => sR_n (by omega)) hR0
      have okb : ∀ q, okL S r set q = true → set.testBit q = false := fun q e => by
        simp only [okL, Bool.and_eq_true, Bool.not_eq_true'] at e
        exact e.1
      have orlt : ∀ q, q < P → set ||| 2 ^ q < 2 ^ P := fun q hq => Nat.or_lt_two_pow hs (Nat.pow_lt_pow_right (by omega) hq)
      have hG148 : (sR 145 X0 A).1 148 k = nI r := by rw [sR_n (by omega), hG k hk, hd1]
      have ft := x_firstK (X := sR 145 X0 A) (l := tl S c (r + 1)) hL hW hXA hRA (show r < N by omega) hs (by rw [hT1 set hs, hp, List.drop_eq_getElem_cons hk, hd1, hd2]) (fun q hq e => by rw [hT1 _ (orlt q hq), bit_add set (by omega) q (by omega) (okb q e), hp, hd2]) hc
      have mt := m_231 (Y := sR 12 Y0 (upd B r (-1))) (i1 := nI N) (k200 := fX13_keepers_200 (nI N) g) (l := tl S c (r + 1)) (by rw [sR_n (by omega)]; exact hY0) hL hW (show r < N by omega) (show set < 128 by omega) (by rw [sR_n (by omega), hF0, hF r (by omega) set (by omega), show N - r = c + 1 by omega, tl, h]; rfl) (fun q hq => by
        obtain ⟨o1, o2⟩ := bit_or set (by omega) q (by omega)
        rw [sR_n (by omega), hF0, hF (r + 1) (by omega) _ o2, show N - (r + 1) = c by omega]) hc
      generalize hq : pfst (fndL S P r (tl S c (r + 1)) set) 0 P = q at q1 q2 q3 ft mt
      obtain ⟨o1, o2⟩ := bit_or set (by omega) q (by omega)
      rw [if_neg h', mt, sR_i, fX6_followKeepers_26, if_neg (nI_ge hk (by omega)), pb_gd (by omega) (by omega), nI_clamp (show k < 2 ^ 31 by omega), hG148, ft]
      simp only [pb_bs]
      rw [pb_gd (by omega) (by omega), pb_gd (by omega) (by omega), nI_clamp (show r < 2 ^ 31 by omega), si_eq, o1, sR_i, nI_1]
      refine ih (r + 1) (k + 1) f g (set ||| 2 ^ q) _ _ (by omega) (by rw [bit_add set (by omega) q (by omega) (okb q q2), hp]) (orlt q q1) hd2 q3 (by omega) (by omega) (fun j hj => ?_) (fun j j1 j2 => ?_)
      · by_cases e : j = r
        · subst e; rw [pk_us, pk_us]
        · rw [pk_un e, pk_un e, pk_un e]; exact hA j (by omega)
      · rw [pk_un (by omega)]; exact hA1 j (by omega) j2
    · have h' : S (85 + r) = 2 := by simpa [notL] using h
      rw [h] at hd hc
      rw [if_pos h', nI_1]
      refine ih (r + 1) k f g set A _ (by omega) hp hs hd hc (by omega) (by omega) (fun j hj => ?_) (fun j j1 j2 => hA1 j (by omega) j2)
      by_cases e : j = r
      · subst e; rw [pk_us]; exact hA1 j (by omega) (by omega)
      · rw [pk_un e]; exact hA j (by omega)
theorem x_fill {X : MM} {i2 : Int32} : ∀ c k n A, k + c = 7 → c < n → (∀ j, j < k → A j = -1) → ∃ A', fX6_followKeepers_2 i2 n (nI k) (sR 145 X A) = fX6_followKeepers_26 i2 mx_fu 0 0 (sR 145 X A') ∧ ∀ j, j < 7 → A' j = -1 := by
  intro c
  induction c with
  | zero =>
    intro k n A hk hn h
    obtain ⟨n, rfl⟩ : ∃ z, n = z + 1 := ⟨n - 1, by omega⟩
    exact ⟨A, by rw [fX6_followKeepers_2, c7, if_pos (nI_le (by omega) (by omega))], fun j hj => h j (by omega)⟩
  | succ c ih =>
    intro k n A hk hn h
    obtain ⟨n, rfl⟩ : ∃ z, n = z + 1 := ⟨n - 1, by omega⟩
    rw [fX6_followKeepers_2, c7, if_neg (nI_ge (by omega) (by omega)), pb_gd (by omega) (by omega), nI_clamp (by omega), sR_i, nI_1]
    refine ih (k + 1) n _ (by omega) (by omega) (fun j hj => ?_)
    by_cases e : j = k
    · subst e; rw [pk_us]
    · rw [pk_un e]; exact h j (by omega)
theorem q_keepers {X Y : MM} {P N : Nat} (h : Inv X Y P N) : RW (fX12_keepers X) (fX13_keepers Y) := by
  have hP := h.p7
  have hN := h.n7
  obtain ⟨F, m1, m2⟩ := m_kTab h.ld h.st
  have tlen := tl_len (S := Y.1 2) N 0
  obtain ⟨F1, a1, a2⟩ := x_give h.ld h.rl h.rs N 0 mx_fu [] (X.1 148) (by omega) (by unfold mx_fu; omega) (by simp; omega) (fun i x hi => by simp at hi)
  rw [sR_self, List.nil_append] at a1
  rw [List.nil_append] at a2
  generalize hG : tl (Y.1 2) N 0 = G at a1 a2 tlen
  have a1 : fX6_planKeepers X = _ := a1
  generalize hX1 : sR 148 X F1 = X1 at a1
  have r1 : ∀ k, k ≠ 148 → X1.1 k = X.1 k := fun k hk => by rw [← hX1, sR_n hk]
  have rl1 : rLd X1 (Y.1 2) P N := by
    rw [← rLo_9]; exact rLo_fr (fun k a b => r1 k (by omega)) hP hN (fun _ _ => rfl) h.rl
  have rs1 : rSt 29 X1 (Y.1 2) P N := rSt_fr (fun k a b => r1 k (by omega)) h.rs
  have kg1 : kGive X1 G := kGive_iff.mpr (fun i x hi => by rw [← hX1, sR_c]; exact a2 i x hi)
  have hGr : ∀ r ∈ G, r < N := fun r hr => by rw [← hG] at hr; have := tl_mem N 0 r hr; omega
  have h128 : 2 ^ P ≤ 2 ^ 7 := Nat.pow_le_pow_right (by omega) hP
  obtain ⟨T, b1, b2⟩ := x_53 h.ld h.st rl1 rs1 kg1 (by omega) hGr (2 ^ P) mx_fu (X1.1 147) (Nat.le_refl _) (by unfold mx_fu; omega) (fun u u1 u2 => by omega)
  rw [sR_self] at b1
  rw [fX12_keepers, a1, shP P (by omega), b1, m1]
  -- the best sum is the same
  have hpos : 0 < 2 ^ P := Nat.two_pow_pos P
  have e0 : T 0 = F 0 := by
    have t0 := b2 0 hpos
    have f0 := m2 0 (by omega) 0 (by omega)
    rw [show popc 0 = 0 from rfl, List.drop_zero] at t0
    rw [Nat.mul_zero, Nat.zero_add, Nat.sub_zero, hG] at f0
    rw [t0, f0]
  have f0 : F 0 = nI (ckL (Y.1 2) P G 0) := by
    have f0 := m2 0 (by omega) 0 (by omega)
    rw [Nat.mul_zero, Nat.zero_add, Nat.sub_zero, hG] at f0
    exact f0
  rw [e0]
  have hle := ckL_le (S := Y.1 2) (P := P) G 0
  by_cases hc : ckL (Y.1 2) P G 0 < 1000000
  · have hlt : F 0 < 1000000 := by rw [f0]; exact nI_lt (b := 1000000) hc (by omega)
    rw [if_pos hlt, if_pos hlt]
    generalize hX2 : sR 147 X1 T = X2
    have r2 : ∀ k, k ≠ 147 → X2.1 k = X1.1 k := fun k hk => by rw [← hX2, sR_n hk]
    generalize hY1 : mx_si (sR 11 (mx_si Y 0 0 (0 : Int32)) F) 0 29 (nI N) = Y1
    have s2 : Y1.1 2 = Y.1 2 := by rw [← hY1, si_row (by omega), sR_n (by omega), th2']
    have s11 : Y1.1 11 = F := by rw [← hY1, si_row (by omega), sR_c]
    obtain ⟨A, c1, c2⟩ := x_fill (X := X2) (i2 := nI G.length) 7 0 mx_fu (X2.1 145) (by omega) (by unfold mx_fu; omega) (fun j hj => by omega)
    rw [sR_self, nI_0] at c1
    have c1 : fX6_followKeepers (nI G.length) X2 = _ := c1
    obtain ⟨A', B', d1, d2, d3, d4⟩ := fol (X0 := X2) (Y0 := Y1) (G := G) (T := T) (F := F) h.ld h.st (by rw [← rLo_9]; exact rLo_fr (fun k a b => r2 k (by omega)) hP hN (fun _ _ => rfl) rl1) (rSt_fr (fun k a b => r2 k (by omega)) rs1) s2 (fun i hi => by rw [r2 148 (by omega)]; exact kg1 i hi) (by omega) (by rw [← hX2, sR_c]) s11 b2 m2 N 0 0 mx_fu mx_fu 0 A (Y1.1 12) (by omega) rfl hpos (by rw [List.drop_zero, hG]) (by rw [hG]; exact hc) (by unfold mx_fu; omega) (by unfold mx_fu; omega) (fun j hj => by omega) (fun j _ hj => c2 j hj)
    rw [sR_self, nI_0] at d2
    rw [nI_0] at d1
    rw [c1, d1, d2]
    simp only [pb_bs]
    have e147 : (sR 145 X2 A').1 147 0 = F 0 := by rw [sR_n (by omega), ← hX2, sR_c, e0]
    rw [e147]
    refine ⟨_, _, _, rfl, rfl, P, N, ?_⟩
    have fx : ∀ k, k ≠ 145 → k ≠ 147 → k ≠ 148 → (sR 145 X2 A').1 k = X.1 k := fun k k1 k2 k3 => by rw [sR_n k1, r2 k k2, r1 k k3]
    have fx2 : (sR 145 X2 A').2 = X.2 := by rw [sR_s, ← hX2, sR_s, ← hX1, sR_s]
    have fy : ∀ k, k ≠ 0 → k ≠ 11 → k ≠ 12 → (sR 12 Y1 B').1 k = Y.1 k := fun k k0 k1 k2 => by rw [sR_n k2, ← hY1, si_row k0, sR_n k1, si_row k0]
    have fy0 : ∀ j, j ≠ 0 → j ≠ 29 → (sR 12 Y1 B').1 0 j = Y.1 0 j := fun j j0 j29 => by rw [sR_n (by omega), ← hY1, si_nj j29, sR_n (by omega), si_nj j0]
    have fy2 : (sR 12 Y1 B').2 = Y.2 := by rw [sR_s, ← hY1]; rfl
    have e2 : (sR 12 Y1 B').1 2 = Y.1 2 := fy 2 (by omega) (by omega) (by omega)
    refine ⟨by rw [e2]; exact h.ld, by rw [e2]; exact h.st, ?_, ?_, ?_, ?_, ?_, ?_, ?_, ?_, ?_, ?_, ?_, ?_, ?_⟩
    · rw [e2, ← rLo_9]; exact rLo_fr (fun k a b => fx k (by omega) (by omega) (by omega)) hP hN (fun _ _ => rfl) h.rl
    · rw [e2]; exact rSt_fr (fun k a b => fx k (by omega) (by omega) (by omega)) h.rs
    · exact rPast_fr (fun k a b => fx k (by omega) (by omega) (by omega)) (by rw [fx2]) (fy 7 (by omega) (by omega) (by omega)) (fy0 23 (by omega) (by omega)) h.pa
    · exact rNm_fr (by rw [fx2]) (by rw [fx2]) hP hN (fun i _ => by rw [fy2]) h.nm
    · rw [e2]; exact rSy_fr (fx _ (by omega) (by omega) (by omega)) (by rw [fx2]) (fx _ (by omega) (by omega) (by omega)) (fx _ (by omega) (by omega) (by omega)) (fun _ _ => rfl) h.sy
    · exact rTp_fr (fx _ (by omega) (by omega) (by omega)) (fx _ (by omega) (by omega) (by omega)) (fy0 2 (by omega) (by omega)) (fy 1 (by omega) (by omega) (by omega)) h.tp
    · rw [fx 0 (by omega) (by omega) (by omega), fy0 15 (by omega) (by omega)]; exact h.ft
    · exact rIm_fr (fun j hj => fx j (by omega) (by omega) (by omega)) (fun j hj => by rw [fx2]) (fun j hj => by rw [fx2]) (fy 19 (by omega) (by omega) (by omega)) (by rw [fy2]) (fy 21 (by omega) (by omega) (by omega)) h.im
    · obtain ⟨⟨n, p1, p2, p3, p4⟩, -⟩ := h.pl
      refine ⟨⟨n, p1, by rw [fx 143 (by omega) (by omega) (by omega)]; exact p2, by rw [fy0 26 (by omega) (by omega)]; exact p3, fun k hk => by rw [fx 144 (by omega) (by omega) (by omega), fy 10 (by omega) (by omega) (by omega)]; exact p4 k hk⟩, N, hN, Or.inl ?_, fun r hr => ?_⟩
      · rw [sR_n (by omega), ← hY1, si_eq]
      · rw [sR_c, sR_c]
        by_cases e : r < N
        · rw [if_pos e]; exact d3 r e
        · rw [if_neg e]; exact d4 r (by omega) hr
    · exact rFi_fr (fx _ (by omega) (by omega) (by omega)) (fy0 32 (by omega) (by omega)) (fy0 30 (by omega) (by omega)) (fy0 31 (by omega) (by omega)) h.fi
    · exact rNt_fr (fx _ (by omega) (by omega) (by omega)) (fx _ (by omega) (by omega) (by omega)) (fy0 37 (by omega) (by omega)) (fy 15 (by omega) (by omega) (by omega)) h.nt
    · exact rBk_fr (fun j _ => by rw [fx 138 (by omega) (by omega) (by omega)]) (fy0 41 (by omega) (by omega)) (fy 16 (by omega) (by omega) (by omega)) h.bk
    · obtain ⟨a, b, c⟩ := h.rf
      exact ⟨fun k hk => by rw [fx2]; exact a k hk, fun i hi => by rw [fx2]; exact b i hi, fun k hk => by rw [fy2]; exact c k hk⟩
  · have hlt : ¬ F 0 < 1000000 := by rw [f0]; exact nI_nlt (b := 1000000) (by omega) (by omega)
    rw [if_neg hlt, if_neg hlt]
    simp only [pb_bs]
    refine ⟨_, _, _, rfl, rfl, P, N, Inv.kp (X := X) (Y := Y) ?_ ?_ ?_ h⟩
    · have fx : ∀ k, k ≠ 147 → k ≠ 148 → (sR 147 X1 T).1 k = X.1 k := fun k k2 k3 => by rw [sR_n k2, r1 k k3]
      have fx2 : (sR 147 X1 T).2 = X.2 := by rw [sR_s, ← hX1, sR_s]
      exact ⟨by rw [fx 0 (by omega) (by omega)], fun k hk => fx k (by omega) (by omega), by rw [fx 143 (by omega) (by omega)], fun j _ => by rw [fx 138 (by omega) (by omega)], fun k _ => by rw [fx2], fun k _ => by rw [fx2], fun hw i hi => by rw [fx2]; exact hw i hi⟩
    · have fy : ∀ k, k ≠ 0 → k ≠ 11 → (sR 11 (mx_si Y 0 0 (0 : Int32)) F).1 k = Y.1 k := fun k k0 k1 => by rw [sR_n k1, si_row k0]
      exact ⟨fy 1 (by omega) (by omega), fy 7 (by omega) (by omega), fy 10 (by omega) (by omega), fy 12 (by omega) (by omega), fy 15 (by omega) (by omega), fy 16 (by omega) (by omega), fy 19 (by omega) (by omega), fy 21 (by omega) (by omega), fun j hj => by rw [sR_n (by omega), si_nj (by omega)], fun _ _ => rfl, rfl, rfl⟩
    · rw [sR_n (by omega), th2']
