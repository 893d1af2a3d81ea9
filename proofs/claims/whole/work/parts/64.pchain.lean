/-! chains -/
theorem xKp.sc {X X' : MM} {k j : Nat} {v : Int32} (h : xKp X X') (hk : (3 ≤ k ∧ k ≤ 8) ∨ (19 ≤ k ∧ k ≤ 28) ∨ (38 ≤ k ∧ k ≤ 55) ∨ (134 ≤ k ∧ k ≤ 137) ∨ (k = 138 ∧ j < 5) ∨ (139 ≤ k ∧ k ≤ 142) ∨ (k = 143 ∧ j ≠ 1) ∨ (146 ≤ k ∧ k ≤ 148) ∨ k = 150 ∨ k = 151) : xKp X (mx_si X' k j v) := by
  refine h.tr ⟨si_nk (by omega), fun a ha => si_row (by omega), ?_, fun i hi => ?_, fun _ _ => rfl, fun _ _ => rfl, fun h => h⟩
  · by_cases e : k = 143
    · subst e; exact si_nj (by omega)
    · exact si_nk (by omega)
  · by_cases e : k = 138
    · subst e; exact si_nj (by omega)
    · exact si_nk (by omega)
theorem si_si {M : MM} {k j : Nat} {v w : Int32} : mx_si (mx_si M k j v) k j w = mx_si M k j w := by
  refine Prod.ext ?_ rfl
  funext a b
  show (if _ then _ else (if _ then _ else _)) = (if _ then _ else _)
  split <;> rfl
def sKf (S : Nat → Int32) (q : Int32) (r : Nat) : Bool := decide (S (33 + r) = q) && !decide (S (85 + r) = 2)
def sKp (S : Nat → Int32) (N : Nat) (q : Int32) : Int32 := if pfst (sKf S q) 0 N < N then S (78 + pfst (sKf S q) 0 N) else -1
theorem m_keeperBy {q : Int32} {N : Nat} {M : MM} (hN : N ≤ 7) (h1 : M.1 2 1 = nI N) : fX13_keeperBy q M = some (sKp (M.1 2) N q) := by
  refine (loop_fst (F := fX13_keeperBy_2 q M) (f := sKf (M.1 2) q) (N := N) (fin := fun k => some (if k < N then M.1 2 (78 + k) else -1)) (by omega) (fun n => ?_) (fun n k hk => ?_)).trans rfl
  · rw [fX13_keeperBy_2, h1, if_pos (nI_le (Nat.le_refl N) (by omega)), if_neg (Nat.lt_irrefl N)]
  · rw [fX13_keeperBy_2, h1, if_neg (nI_ge hk (by omega)), c33, c85, c78]
    simp only [nI_add, nI_1]
    rw [pb_gd (by omega) (by omega), pb_gd (by omega) (by omega), pb_gd (by omega) (by omega), nI_clamp (by omega), nI_clamp (by omega), nI_clamp (by omega), sKf, if_pos hk]
    by_cases a : M.1 2 (33 + k) = q <;> by_cases b : M.1 2 (85 + k) = 2 <;> simp [a, b]
theorem x_keeperOfFirst {q : Int32} {P N : Nat} {X : MM} {S : Nat → Int32} (hN : N ≤ 7) (h1 : X.1 9 1 = nI N) (hL : rLd X S P N) (hR : rSt 29 X S P N) : fX6_keeperOfFirst q X = some (sKp S N q) := by
  refine (loop_fst (F := fX6_keeperOfFirst_2 q X) (f := sKf S q) (N := N) (fin := fun k => some (if k < N then S (78 + k) else -1)) (by omega) (fun n => ?_) (fun n k hk => ?_)).trans rfl
  · rw [fX6_keeperOfFirst_2, h1, if_pos (nI_le (Nat.le_refl N) (by omega)), if_neg (Nat.lt_irrefl N)]
  · obtain ⟨g5, -, g3, -⟩ := hR.2.2.2.2 k hk
    have g5 : X.1 34 k = S (85 + k) := g5
    have g3 : S (85 + k) ≠ 2 → X.1 33 k = S (78 + k) := g3
    have go : X.1 16 k = S (33 + k) := (hL.2.2.2.2.2.2 k hk).2.1
    rw [fX6_keeperOfFirst_2, h1, if_neg (nI_ge hk (by omega))]
    simp only [pb_in (show k < 7 by omega) (show 7 ≤ 1000000 by omega), ↓reduceIte, nI_clamp (show k < 2 ^ 31 by omega), nI_1, go, g5, sKf, if_pos hk]
    by_cases a : S (33 + k) = q <;> by_cases b : S (85 + k) = 2
    · simp [a, b]
    · simp [a, b, g3 b]
    · simp [a, b]
    · simp [a, b]
theorem sKp_val {S : Nat → Int32} {P N : Nat} {q : Int32} (hW : wSt S P N) : sKp S N q = -1 ∨ ∃ a, a < P ∧ sKp S N q = nI a := by
  unfold sKp
  split
  · rename_i h
    obtain ⟨a, ha, e⟩ := (hW.2.2 _ h).1
    exact Or.inr ⟨a, ha, e⟩
  · exact Or.inl rfl
theorem bit_add : ∀ m, m < 128 → ∀ r, r < 7 → m.testBit r = false → popc (m ||| 2 ^ r) = popc m + 1 := by decide +kernel
theorem bit_z : ∀ m, m < 128 → ∀ r, r < 7 → decide (((nI m >>> (nI r &&& 31)) &&& (1 : Int32)) = 0) = !m.testBit r := by decide +kernel
theorem bit_o1 : ∀ r, r < 7 → (1 : Int32) <<< (nI r &&& 31) = nI (2 ^ r) ∧ (0 : Int32) ||| ((1 : Int32) <<< (nI r &&& 31)) = nI (2 ^ r) ∧ 2 ^ r < 128 ∧ popc (2 ^ r) = 1 := by decide +kernel
theorem chain_loop {P N : Nat} {X Y : MM} {p : Int32} (hP : P ≤ 7) (hN : N ≤ 7) (hx1 : X.1 9 1 = nI N) (hy1 : Y.1 2 1 = nI N) (hL : rLd X (Y.1 2) P N) (hR : rSt 29 X (Y.1 2) P N) (hW : wSt (Y.1 2) P N) :
    ∀ (c i f g m : Nat) (v : Int32), i + c = 7 → c < f → c < g → m < 128 → popc m = i + 1 → (v = -1 ∨ ∃ a, a < P ∧ v = nI a) → ∃ m' v', m' < 128 ∧ fX6_chainFrom_16 p f (nI m) (nI i) (mx_si X 143 3 v) = some (nI m', mx_si X 143 3 v') ∧ fX13_chainOf_4 p g (nI m) v Y = some (nI (popc m'), mx_si Y 0 35 v') := by
  intro c
  induction c with
  | zero =>
    intro i f g m v hi _ _ hm hp _
    have := bit_pop m hm
    omega
  | succ c ih =>
    intro i f g m v hi hf hg hm hp hv
    obtain ⟨f, rfl⟩ : ∃ z, f = z + 1 := ⟨f - 1, by omega⟩
    obtain ⟨g, rfl⟩ : ∃ z, g = z + 1 := ⟨g - 1, by omega⟩
    rw [fX6_chainFrom_16, fX13_chainOf_4, c7, if_neg (nI_ge (by omega) (by omega)), si_eq]
    rcases hv with hv | ⟨a, ha, hv⟩
    · subst hv
      rw [if_pos rfl, if_pos (by decide), fX13_chainOf_31, m_bits hm]
      exact ⟨m, -1, hm, rfl, rfl⟩
    · subst hv
      have hne : ¬ nI a = -1 := fun e => by
        have h0 : ¬ nI a < 0 := nI_pos (by omega)
        rw [e] at h0
        exact h0 (by decide)
      rw [if_neg hne, if_neg (nI_pos (by omega)), m_bitOf hm (by omega)]
      simp only [pb_bs]
      have hz := bit_z m hm a (by omega)
      by_cases hb : m.testBit a = true
      · rw [hb] at hz ⊢
        have hz' : ¬ ((nI m >>> (nI a &&& 31)) &&& (1 : Int32)) = 0 := by simpa using hz
        rw [if_neg hz', if_neg b_t, fX13_chainOf_31, m_bits hm]
        exact ⟨m, nI a, hm, rfl, rfl⟩
      · have hb' : m.testBit a = false := by simpa using hb
        rw [hb'] at hz ⊢
        have hz' : ((nI m >>> (nI a &&& 31)) &&& (1 : Int32)) = 0 := by simpa using hz
        obtain ⟨o1, o2⟩ := bit_or m hm a (by omega)
        have hL' : rLd (mx_si X 143 3 (nI a)) (Y.1 2) P N := by
          rw [← rLo_9]; exact rLo_fr (fun k k1 k2 => si_row (by omega)) hP hN (fun _ _ => rfl) hL
        have hR' : rSt 29 (mx_si X 143 3 (nI a)) (Y.1 2) P N := rSt_fr (fun k k1 k2 => si_row (by omega)) hR
        rw [if_pos hz', if_pos b_f, m_keeperBy hN hy1, x_keeperOfFirst hN (by rw [si_nk (by omega)]; exact hx1) hL' hR']
        simp only [pb_bs]
        rw [o1, nI_1, si_si]
        exact ih (i + 1) f g (m ||| 2 ^ a) _ (by omega) (by omega) (by omega) o2 (by rw [bit_add m hm a (by omega) hb']; omega) (sKp_val hW)
theorem chain_both {P N p : Nat} {X Y : MM} (hP : P ≤ 7) (hN : N ≤ 7) (hp : p < P) (hx1 : X.1 9 1 = nI N) (hy1 : Y.1 2 1 = nI N) (hL : rLd X (Y.1 2) P N) (hR : rSt 29 X (Y.1 2) P N) (hW : wSt (Y.1 2) P N) : ∃ m' v', m' < 128 ∧ fX6_chainFrom (nI p) X = some (nI m', mx_si X 143 3 v') ∧ fX13_chainOf (nI p) Y = some (nI (popc m'), mx_si Y 0 35 v') := by
  obtain ⟨o1, o2, o3, o4⟩ := bit_o1 p (by omega)
  have hb0 : (0 : Nat).testBit p = false := by simp
  have e0 : fX13_chainOf (nI p) Y = fX13_chainOf_4 (nI p) 9999 (nI (2 ^ p)) (sKp (Y.1 2) N (nI p)) Y := by
    have := m_bitOf (m := 0) (r := p) (M := Y) (by omega) (by omega)
    rw [nI_0] at this
    rw [fX13_chainOf, show mx_fu = 9999 + 1 from rfl, fX13_chainOf_4, if_neg (nI_pos (by omega)), this, hb0]
    simp only [pb_bs]
    rw [if_pos b_f, m_keeperBy hN hy1]
    simp only [pb_bs]
    rw [o2]
  rw [e0, fX6_chainFrom, x_keeperOfFirst hN hx1 hL hR]
  simp only [pb_bs]
  rw [o1]
  exact chain_loop hP hN hx1 hy1 hL hR hW 7 0 mx_fu 9999 (2 ^ p) _ (by omega) (by unfold mx_fu; omega) (by omega) o3 o4 (sKp_val hW)
theorem q_chain {X Y : MM} {P N : Nat} {i : Int32} (h : Inv X Y P N) : RW (fX12_chain i X) (fX13_chain i Y) := by
  have hP := h.p7
  have hN := h.n7
  rw [fX12_chain, fX13_chain, x_isPerson h.x0 hP, m_isPerson (th2.trans h.y0) hP]
  simp only [pb_bs]
  rcases in_cases i P (by omega) with hp | ⟨p, hp, rfl⟩
  · rw [hp, if_pos b_f, if_pos b_f]; exact ⟨_, _, _, rfl, rfl, P, N, h.th⟩
  have e2 : (mx_si Y 0 0 (0 : Int32)).1 2 = Y.1 2 := th2'
  obtain ⟨m, v, hm, e3, e4⟩ := chain_both (X := X) (Y := mx_si Y 0 0 (0 : Int32)) hP hN hp h.x1 (th2.trans h.y1) (by rw [e2]; exact h.rl) (by rw [e2]; exact h.rs) (by rw [e2]; exact h.st)
  rw [pb_in hp (by omega), if_neg b_t, if_neg b_t, e3, e4]
  simp only [pb_bs]
  rw [x_bitCount hm]
  exact ⟨_, _, _, rfl, rfl, P, N, Inv.kp (xKp.rf.sc (by omega)) ((yKp.rf.th (by omega)).th (by omega)) (by rw [si_row (by omega), si_row (by omega)]) h⟩
theorem q_closed {X Y : MM} {P N : Nat} {i : Int32} (h : Inv X Y P N) : RW (fX12_closed i X) (fX13_closed i Y) := by
  have hP := h.p7
  have hN := h.n7
  rw [fX12_closed, fX13_closed, x_isPerson h.x0 hP, m_isPerson (th2.trans h.y0) hP]
  simp only [pb_bs]
  rcases in_cases i P (by omega) with hp | ⟨p, hp, rfl⟩
  · rw [hp, if_pos b_f, if_pos b_f]; exact ⟨_, _, _, rfl, rfl, P, N, h.th⟩
  have e2 : (mx_si Y 0 0 (0 : Int32)).1 2 = Y.1 2 := th2'
  obtain ⟨m, v, hm, e3, e4⟩ := chain_both (X := X) (Y := mx_si Y 0 0 (0 : Int32)) hP hN hp h.x1 (th2.trans h.y1) (by rw [e2]; exact h.rl) (by rw [e2]; exact h.rs) (by rw [e2]; exact h.st)
  rw [pb_in hp (by omega), if_neg b_t, if_neg b_t, e3, e4]
  simp only [pb_bs]
  rw [si_eq, si_eq]
  have hk : Inv (mx_si X 143 3 v) (mx_si (mx_si Y 0 0 (0 : Int32)) 0 35 v) P N := Inv.kp (xKp.rf.sc (by omega)) ((yKp.rf.th (by omega)).th (by omega)) (by rw [si_row (by omega), si_row (by omega)]) h
  by_cases hc : v = nI p
  · rw [if_pos hc, if_pos hc]; exact ⟨_, _, _, rfl, rfl, P, N, hk⟩
  · rw [if_neg hc, if_neg hc]; exact ⟨_, _, _, rfl, rfl, P, N, hk⟩
