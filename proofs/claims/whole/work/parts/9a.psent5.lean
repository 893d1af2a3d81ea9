/-! a sentence: the class's calls within one another -/
def FA (f : Nat) (X Y : MM) (a : Option (Bool × MM)) : Prop := ∃ X' Y', a = some (false, X') ∧ fX13_sentence_48 f true Y = some ((-1 : Int32) - Y'.1 0 16, Y') ∧ WX X X' ∧ WY Y Y' ∧ FL X' Y'
def OK (T : TX) (P N s n t ones d f : Nat) (σ : List Nat) (X Y : MM) (sh : Nat → Prop) (w : Nat → Prop) (a : Option (Bool × MM)) : Prop :=
  ∃ s' X' Y' f' n' ones' k τ, a = some (true, X') ∧ fX13_sentence_48 f true Y = fX13_sentence_48 f' true Y' ∧ (∀ o, o ∈ τ → sh o) ∧ SR T P N s' n' (t + 1) ones' d σ (List.replicate k 20 ++ τ) true X' Y' ∧ WX X X' ∧ WY Y Y' ∧ s < s' ∧ 2000 ≤ f' + s' ∧ ones < ones' ∧ n' + (k + τ.length) + (t + 1) + 2 * ones ≤ n + t + 2 * ones' ∧ w (X'.2.2 8 s')
def POne (T : TX) (P N d : Nat) (ro : Int32 → MM → Option (Bool × MM)) : Prop := ∀ f s n t ones σ X Y, SR T P N s n t ones d σ [] false X Y → σ.length ≤ 3 * d → 2000 ≤ f + s → OK T P N s n t ones d f σ X Y (fun _ => False) (fun _ => True) (ro (nI d) X) ∨ FA f X Y (ro (nI d) X)
def PAll (T : TX) (P N d : Nat) (ra : Int32 → MM → Option (Bool × MM)) : Prop := ∀ f s n t ones σ X Y, SR T P N s n t ones d σ [] false X Y → σ.length + 1 ≤ 3 * d → (∀ o ρ, σ = o :: ρ → o = 22 ∨ o = 23) → 2000 ≤ f + s → OK T P N s n t ones d f σ X Y (fun o => o = 21) (fun w => w ≠ 13) (ra (nI d) X) ∨ FA f X Y (ra (nI d) X)
def PCond (T : TX) (P N d : Nat) (rc : Int32 → MM → Option (Bool × MM)) : Prop := ∀ f s n t ones σ X Y, SR T P N s n t ones d σ [] false X Y → σ.length + 2 ≤ 3 * d → (∀ o ρ, σ = o :: ρ → o = 23) → 2000 ≤ f + s → OK T P N s n t ones d f σ X Y (fun o => o = 21 ∨ o = 22) (fun w => w ≠ 12 ∧ w ≠ 13) (rc (nI d) X) ∨ FA f X Y (rc (nI d) X)
theorem LX.s941 {T : TX} {s : Nat} {X Y : MM} (h : LX T s X Y) : s < 941 := by
  have h1 := h.2.2.1
  have h2 := h.2.2.2.2.2.2.1
  omega
theorem all_loop {T : TX} {P N d : Nat} {ro : Int32 → MM → Option (Bool × MM)} (hro : POne T P N d ro) (hd : d ≤ 9) {σ : List Nat} (hl : σ.length + 1 ≤ 3 * d) (hσ : ∀ o ρ, σ = o :: ρ → o = 22 ∨ o = 23) : ∀ c g j f s n t ones k (τ : List Nat) X Y, 20 - ones ≤ c → c < g → j < ones → (∀ o, o ∈ τ → o = 21) → SR T P N s n (t + 1) ones d σ (List.replicate k 20 ++ τ) true X Y → 2000 ≤ f + s → (∃ s' X' Y' f' n' ones' k' τ', fX8_readAll_15 ro (nI d) g (nI j) X = some (true, X') ∧ fX13_sentence_48 f true Y = fX13_sentence_48 f' true Y' ∧ (∀ o, o ∈ τ' → o = 21) ∧ SR T P N s' n' (t + 1) ones' d σ (List.replicate k' 20 ++ τ') true X' Y' ∧ WX X X' ∧ WY Y Y' ∧ s ≤ s' ∧ 2000 ≤ f' + s' ∧ ones ≤ ones' ∧ n' + (k' + τ'.length) + 2 * ones ≤ n + (k + τ.length) + 2 * ones' ∧ X'.2.2 8 s' ≠ 13) ∨ FA f X Y (fX8_readAll_15 ro (nI d) g (nI j) X) := by
  intro c
  induction c with
  | zero =>
    intro g j f s n t ones k τ X Y hc hg hj hτ h hf
    obtain ⟨g, rfl⟩ : ∃ z, g = z + 1 := ⟨g - 1, by omega⟩
    have o20 : ones ≤ 20 := by obtain ⟨-, -, ⟨-, -, z⟩, -⟩ := h; exact z
    rw [fX8_readAll_15, if_neg (show ¬ (20 : Int32) < nI j from nI_nlt (a := 20) (by omega) (by omega)), p_key h.1]
    simp only [pb_bs]
    rw [if_pos h.1.tk.2.1]
    by_cases e : X.2.2 8 s = 13
    · rw [if_pos e]
      obtain ⟨f, rfl⟩ : ∃ z, f = z + 1 := ⟨f - 1, by have := h.1.s941; omega⟩
      obtain ⟨a1, Y1, a2, a3, a4⟩ := s_oper (o := 21) (f := f) h (by omega) (by omega) (fun p hp => Or.inl (hτ p hp)) (fun p ρ q => by have := hσ p ρ q; omega) (by rw [e]) (by omega)
      rw [a1]
      simp only [pb_bs]
      rcases hro f (s + 1) _ (t + 1) ones (21 :: σ) _ Y1 a3 (by rw [List.length_cons]; omega) (by omega) with ⟨s', X', Y', f', n', ones', k', τ', b1, b2, b3, b4, b5, b6, b7, b8, b9, b10, b11⟩ | ⟨X', Y', b1, b2, b3, b4, b5⟩
      · exfalso
        obtain ⟨-, -, ⟨-, -, z⟩, -⟩ := b4
        omega
      · right
        rw [b1]
        simp only [pb_bs]
        rw [if_pos b_f]
        exact ⟨X', Y', rfl, a2.trans b2, (WX.rf.si (by omega)).tr b3, a4.tr b4, b5⟩
    · rw [if_neg e]
      left
      exact ⟨s, X, Y, f, n, ones, k, τ, rfl, rfl, hτ, h, WX.rf, WY.rf, by omega, hf, by omega, by omega, e⟩
  | succ c ih =>
    intro g j f s n t ones k τ X Y hc hg hj hτ h hf
    obtain ⟨g, rfl⟩ : ∃ z, g = z + 1 := ⟨g - 1, by omega⟩
    have o20 : ones ≤ 20 := by obtain ⟨-, -, ⟨-, -, z⟩, -⟩ := h; exact z
    rw [fX8_readAll_15, if_neg (show ¬ (20 : Int32) < nI j from nI_nlt (a := 20) (by omega) (by omega)), p_key h.1]
    simp only [pb_bs]
    rw [if_pos h.1.tk.2.1]
    by_cases e : X.2.2 8 s = 13
    · rw [if_pos e]
      obtain ⟨f, rfl⟩ : ∃ z, f = z + 1 := ⟨f - 1, by have := h.1.s941; omega⟩
      obtain ⟨a1, Y1, a2, a3, a4⟩ := s_oper (o := 21) (f := f) h (by omega) (by omega) (fun p hp => Or.inl (hτ p hp)) (fun p ρ q => by have := hσ p ρ q; omega) (by rw [e]) (by omega)
      rw [a1]
      simp only [pb_bs]
      rcases hro f (s + 1) _ (t + 1) ones (21 :: σ) _ Y1 a3 (by rw [List.length_cons]; omega) (by omega) with ⟨s', X', Y', f', n', ones', k', τ', b1, b2, b3, b4, b5, b6, b7, b8, b9, b10, b11⟩ | ⟨X', Y', b1, b2, b3, b4, b5⟩
      · have t0 : τ' = [] := by
          cases τ' with
          | nil => rfl
          | cons p q => exact absurd (b3 p List.mem_cons_self) (fun z => z)
        subst t0
        rw [List.append_nil] at b4
        rw [List.length_nil, Nat.add_zero] at b10
        have sz : n' + k' + (t + 1 + 1) ≤ 2 * ones' := by
          obtain ⟨-, -, -, ⟨-, z⟩, -⟩ := b4
          rw [List.length_replicate] at z
          omega
        obtain ⟨X2, c1, c2, c3⟩ := b4.put (t := t + 1) (d := d) (o := 21) (Or.inr ⟨by omega, by omega, rfl⟩) (by omega) (by rw [List.length_replicate]; omega)
        have c1' : fX8_put 13 0 0 X' = some X2 := c1
        rw [b1]
        simp only [pb_bs]
        rw [if_neg b_t, c1', nI_1]
        simp only [pb_bs]
        rcases ih g (j + 1) f' s' n' t ones' k' [21] X2 Y' (by omega) (by omega) (by omega) (fun o ho => by simpa using ho) c2 b8 with ⟨s2, X3, Y3, f3, n3, ones3, k3, τ3, d1, d2, d3, d4, d5, d6, d7, d8, d9, d10, d11⟩ | ⟨X3, Y3, d1, d2, d3, d4, d5⟩
        · left
          rw [List.length_singleton] at d10
          exact ⟨s2, X3, Y3, f3, n3, ones3, k3, τ3, d1, (a2.trans b2).trans d2, d3, d4, (((WX.rf.si (by omega)).tr b5).tr c3).tr d5, (a4.tr b6).tr d6, by omega, d8, by omega, by omega, d11⟩
        · right
          exact ⟨X3, Y3, d1, (a2.trans b2).trans d2, (((WX.rf.si (by omega)).tr b5).tr c3).tr d3, (a4.tr b6).tr d4, d5⟩
      · right
        rw [b1]
        simp only [pb_bs]
        rw [if_pos b_f]
        exact ⟨X', Y', rfl, a2.trans b2, (WX.rf.si (by omega)).tr b3, a4.tr b4, b5⟩
    · rw [if_neg e]
      left
      exact ⟨s, X, Y, f, n, ones, k, τ, rfl, rfl, hτ, h, WX.rf, WY.rf, by omega, hf, by omega, by omega, e⟩
theorem s_all {T : TX} {P N d : Nat} {ro : Int32 → MM → Option (Bool × MM)} (hro : POne T P N d ro) (hd : d ≤ 9) : PAll T P N d (fX8_readAll ro) := by
  intro f s n t ones σ X Y h hl hσ hf
  rw [fX8_readAll]
  rcases hro f s n t ones σ X Y h (by omega) hf with ⟨s', X', Y', f', n', ones', k', τ', b1, b2, b3, b4, b5, b6, b7, b8, b9, b10, b11⟩ | ⟨X', Y', b1, b2, b3, b4, b5⟩
  · rw [b1]
    simp only [pb_bs]
    rw [if_neg b_t]
    rcases all_loop hro hd hl hσ 20 mx_fu 0 f' s' n' t ones' k' τ' X' Y' (by omega) (by unfold mx_fu; omega) (by omega) (fun o ho => absurd (b3 o ho) (fun z => z)) b4 b8 with ⟨s2, X3, Y3, f3, n3, ones3, k3, τ3, d1, d2, d3, d4, d5, d6, d7, d8, d9, d10, d11⟩ | ⟨X3, Y3, d1, d2, d3, d4, d5⟩
    · left
      exact ⟨s2, X3, Y3, f3, n3, ones3, k3, τ3, d1, b2.trans d2, d3, d4, b5.tr d5, b6.tr d6, by omega, d8, by omega, by omega, d11⟩
    · right
      exact ⟨X3, Y3, d1, b2.trans d2, b5.tr d3, b6.tr d4, d5⟩
  · right
    rw [b1]
    simp only [pb_bs]
    rw [if_pos b_f]
    exact ⟨X', Y', rfl, b2, b3, b4, b5⟩
theorem cond_loop {T : TX} {P N d : Nat} {ra : Int32 → MM → Option (Bool × MM)} (hra : PAll T P N d ra) (hd : d ≤ 9) {σ : List Nat} (hl : σ.length + 2 ≤ 3 * d) (hσ : ∀ o ρ, σ = o :: ρ → o = 23) : ∀ c g j f s n t ones k (τ : List Nat) X Y, 20 - ones ≤ c → c < g → j < ones → (∀ o, o ∈ τ → o = 21 ∨ o = 22) → SR T P N s n (t + 1) ones d σ (List.replicate k 20 ++ τ) true X Y → X.2.2 8 s ≠ 13 → 2000 ≤ f + s → (∃ s' X' Y' f' n' ones' k' τ', fX8_readCond_15 ra (nI d) g (nI j) X = some (true, X') ∧ fX13_sentence_48 f true Y = fX13_sentence_48 f' true Y' ∧ (∀ o, o ∈ τ' → o = 21 ∨ o = 22) ∧ SR T P N s' n' (t + 1) ones' d σ (List.replicate k' 20 ++ τ') true X' Y' ∧ WX X X' ∧ WY Y Y' ∧ s ≤ s' ∧ 2000 ≤ f' + s' ∧ ones ≤ ones' ∧ n' + (k' + τ'.length) + 2 * ones ≤ n + (k + τ.length) + 2 * ones' ∧ X'.2.2 8 s' ≠ 12 ∧ X'.2.2 8 s' ≠ 13) ∨ FA f X Y (fX8_readCond_15 ra (nI d) g (nI j) X) := by
  intro c
  induction c with
  | zero =>
    intro g j f s n t ones k τ X Y hc hg hj hτ h h13 hf
    obtain ⟨g, rfl⟩ : ∃ z, g = z + 1 := ⟨g - 1, by omega⟩
    have o20 : ones ≤ 20 := by obtain ⟨-, -, ⟨-, -, z⟩, -⟩ := h; exact z
    rw [fX8_readCond_15, if_neg (show ¬ (20 : Int32) < nI j from nI_nlt (a := 20) (by omega) (by omega)), p_key h.1]
    simp only [pb_bs]
    rw [if_pos h.1.tk.2.1]
    by_cases e : X.2.2 8 s = 12
    · rw [if_pos e]
      obtain ⟨f, rfl⟩ : ∃ z, f = z + 1 := ⟨f - 1, by have := h.1.s941; omega⟩
      obtain ⟨a1, Y1, a2, a3, a4⟩ := s_oper (o := 22) (f := f) h (by omega) (by omega) (fun p hp => by have := hτ p hp; omega) (fun p ρ q => by have := hσ p ρ q; omega) (by rw [e]) (by omega)
      rw [a1]
      simp only [pb_bs]
      rcases hra f (s + 1) _ (t + 1) ones (22 :: σ) _ Y1 a3 (by rw [List.length_cons]; omega) (fun o ρ q => by injection q with q1 q2; omega) (by omega) with ⟨s', X', Y', f', n', ones', k', τ', b1, b2, b3, b4, b5, b6, b7, b8, b9, b10, b11⟩ | ⟨X', Y', b1, b2, b3, b4, b5⟩
      · exfalso
        obtain ⟨-, -, ⟨-, -, z⟩, -⟩ := b4
        omega
      · right
        rw [b1]
        simp only [pb_bs]
        rw [if_pos b_f]
        exact ⟨X', Y', rfl, a2.trans b2, (WX.rf.si (by omega)).tr b3, a4.tr b4, b5⟩
    · rw [if_neg e]
      left
      exact ⟨s, X, Y, f, n, ones, k, τ, rfl, rfl, hτ, h, WX.rf, WY.rf, by omega, hf, by omega, by omega, e, h13⟩
  | succ c ih =>
    intro g j f s n t ones k τ X Y hc hg hj hτ h h13 hf
    obtain ⟨g, rfl⟩ : ∃ z, g = z + 1 := ⟨g - 1, by omega⟩
    have o20 : ones ≤ 20 := by obtain ⟨-, -, ⟨-, -, z⟩, -⟩ := h; exact z
    rw [fX8_readCond_15, if_neg (show ¬ (20 : Int32) < nI j from nI_nlt (a := 20) (by omega) (by omega)), p_key h.1]
    simp only [pb_bs]
    rw [if_pos h.1.tk.2.1]
    by_cases e : X.2.2 8 s = 12
    · rw [if_pos e]
      obtain ⟨f, rfl⟩ : ∃ z, f = z + 1 := ⟨f - 1, by have := h.1.s941; omega⟩
      obtain ⟨a1, Y1, a2, a3, a4⟩ := s_oper (o := 22) (f := f) h (by omega) (by omega) (fun p hp => by have := hτ p hp; omega) (fun p ρ q => by have := hσ p ρ q; omega) (by rw [e]) (by omega)
      rw [a1]
      simp only [pb_bs]
      rcases hra f (s + 1) _ (t + 1) ones (22 :: σ) _ Y1 a3 (by rw [List.length_cons]; omega) (fun o ρ q => by injection q with q1 q2; omega) (by omega) with ⟨s', X', Y', f', n', ones', k', τ', b1, b2, b3, b4, b5, b6, b7, b8, b9, b10, b11⟩ | ⟨X', Y', b1, b2, b3, b4, b5⟩
      · have sz : n' + (k' + τ'.length) + (t + 1 + 1) ≤ 2 * ones' := by
          obtain ⟨-, -, -, ⟨-, z⟩, -⟩ := b4
          rw [List.length_append, List.length_replicate] at z
          omega
        obtain ⟨X2, c1, c2, c3⟩ := b4.put (t := t + 1) (d := d) (o := 22) (Or.inr ⟨by omega, by omega, rfl⟩) (by omega) (by rw [List.length_append, List.length_replicate]; omega)
        have c1' : fX8_put 12 0 0 X' = some X2 := c1
        rw [List.append_assoc] at c2
        have k13 : X2.2.2 8 s' ≠ 13 := by
          have e1 := p_key c2.1
          have : X2.2.2 8 = X'.2.2 8 := by
            obtain ⟨-, -, ⟨-, -, z20⟩, -, -, -, h13', -, -⟩ := b4
            have sz2 := pdR.sz _ _ h13'
            have pp := x_put (w := 12) (a := 0) (b := 0) sz2 (by rw [List.length_append, List.length_replicate]; omega) (by omega)
            rw [pp] at c1'
            injection c1' with c1'
            rw [← c1']
            exact mx_sr_ne (by omega)
          rw [this]
          exact b11
        rw [b1]
        simp only [pb_bs]
        rw [if_neg b_t, c1', nI_1]
        simp only [pb_bs]
        rcases ih g (j + 1) f' s' n' t ones' k' (τ' ++ [22]) X2 Y' (by omega) (by omega) (by omega) (fun o ho => by
          rcases List.mem_append.mp ho with q | q
          · exact Or.inl (b3 o q)
          · right; simpa using q) c2 k13 b8 with ⟨s2, X3, Y3, f3, n3, ones3, k3, τ3, d1, d2, d3, d4, d5, d6, d7, d8, d9, d10, d11⟩ | ⟨X3, Y3, d1, d2, d3, d4, d5⟩
        · left
          rw [List.length_append, List.length_singleton] at d10
          exact ⟨s2, X3, Y3, f3, n3, ones3, k3, τ3, d1, (a2.trans b2).trans d2, d3, d4, (((WX.rf.si (by omega)).tr b5).tr c3).tr d5, (a4.tr b6).tr d6, by omega, d8, by omega, by omega, d11⟩
        · right
          exact ⟨X3, Y3, d1, (a2.trans b2).trans d2, (((WX.rf.si (by omega)).tr b5).tr c3).tr d3, (a4.tr b6).tr d4, d5⟩
      · right
        rw [b1]
        simp only [pb_bs]
        rw [if_pos b_f]
        exact ⟨X', Y', rfl, a2.trans b2, (WX.rf.si (by omega)).tr b3, a4.tr b4, b5⟩
    · rw [if_neg e]
      left
      exact ⟨s, X, Y, f, n, ones, k, τ, rfl, rfl, hτ, h, WX.rf, WY.rf, by omega, hf, by omega, by omega, e, h13⟩
theorem s_cond {T : TX} {P N d : Nat} {ra : Int32 → MM → Option (Bool × MM)} (hra : PAll T P N d ra) (hd : d ≤ 9) : PCond T P N d (fX8_readCond ra) := by
  intro f s n t ones σ X Y h hl hσ hf
  rw [fX8_readCond]
  rcases hra f s n t ones σ X Y h (by omega) (fun o ρ q => Or.inr (hσ o ρ q)) hf with ⟨s', X', Y', f', n', ones', k', τ', b1, b2, b3, b4, b5, b6, b7, b8, b9, b10, b11⟩ | ⟨X', Y', b1, b2, b3, b4, b5⟩
  · rw [b1]
    simp only [pb_bs]
    rw [if_neg b_t]
    rcases cond_loop hra hd hl hσ 20 mx_fu 0 f' s' n' t ones' k' τ' X' Y' (by omega) (by unfold mx_fu; omega) (by omega) (fun o ho => Or.inl (b3 o ho)) b4 b11 b8 with ⟨s2, X3, Y3, f3, n3, ones3, k3, τ3, d1, d2, d3, d4, d5, d6, d7, d8, d9, d10, d11⟩ | ⟨X3, Y3, d1, d2, d3, d4, d5⟩
    · left
      exact ⟨s2, X3, Y3, f3, n3, ones3, k3, τ3, d1, b2.trans d2, d3, d4, b5.tr d5, b6.tr d6, by omega, d8, by omega, by omega, d11⟩
    · right
      exact ⟨X3, Y3, d1, b2.trans d2, b5.tr d3, b6.tr d4, d5⟩
  · right
    rw [b1]
    simp only [pb_bs]
    rw [if_pos b_f]
    exact ⟨X', Y', rfl, b2, b3, b4, b5⟩
