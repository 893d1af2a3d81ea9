/-! queries: the class reads, the reference too -/
def RO (a : Option Int32) (X : MM) (b : Option (Int32 × MM)) : Prop := ∃ v Y', a = some v ∧ b = some (v, Y') ∧ ∃ P N, Inv X Y' P N
def RW {α : Type} (a b : Option (α × MM)) : Prop := ∃ v X' Y', a = some (v, X') ∧ b = some (v, Y') ∧ ∃ P N, Inv X' Y' P N
theorem in_cases (i : Int32) (n : Nat) (hn : n ≤ 1000000) : mx_in i n = false ∨ ∃ p, p < n ∧ i = nI p := by
  rcases pk_ix i (n := n) (by omega) with h | h | h
  · left
    simp only [mx_in, Bool.and_eq_false_iff, decide_eq_false_iff_not]
    exact Or.inl (Int32.not_le.mpr h)
  · left
    simp only [mx_in, Bool.and_eq_false_iff, decide_eq_false_iff_not]
    by_cases h0 : i < 0
    · exact Or.inl (Int32.not_le.mpr h0)
    · right
      obtain ⟨j, hj, rfl⟩ := nI_of h0
      rw [nI_clamp hj]
      rw [pb_le (by omega) hj] at h
      omega
  · exact Or.inr h
theorem in_lt {i : Int32} {n : Nat} (hn : n ≤ 1000000) : mx_in i n = (!decide (i < 0) && !decide (nI n ≤ i)) := by
  by_cases h0 : i < 0
  · have : ¬ 0 ≤ i := Int32.not_le.mpr h0
    simp [mx_in, h0, this]
  · obtain ⟨j, hj, rfl⟩ := nI_of h0
    have h1 : 0 ≤ nI j := nI_pos' hj
    simp only [mx_in, h0, h1, nI_clamp hj, pb_le (show n < 2 ^ 31 by omega) hj]
    by_cases h2 : j < n
    · have : ¬ n ≤ j := by omega
      simp [h2, this]
    · have : n ≤ j := by omega
      simp [h2, this]
theorem pred_lt {n : Nat} {i : Int32} (hn : n ≤ 1000000) : (nI n - 1 < i) = (nI n ≤ i) := by
  have h := pk_sub_toInt (a := n) (b := 1) (by omega) (by omega)
  have h' : (nI n - 1).toInt = (n : Int) - 1 := h
  rw [Int32.lt_iff_toInt_lt, Int32.le_iff_toInt_le, h', nI_toInt (by omega)]
  apply propext
  omega
theorem m_isInP {i : Int32} {n : Nat} {M : MM} (hn : n ≤ 1000000) : fX13_isIn i (0 : Int32) (nI n - 1) M = some (mx_in i n) := by
  rw [fX13_isIn, in_lt hn]
  simp only [pred_lt hn]
  by_cases h0 : i < 0
  · rw [if_pos h0]; simp [h0]
  · rw [if_neg h0]
    by_cases h1 : nI n ≤ i
    · rw [if_pos h1]; simp [h0, h1]
    · rw [if_neg h1]; simp [h0, h1]
theorem m_isPerson {i : Int32} {P : Nat} {M : MM} (h : M.1 2 0 = nI P) (hP : P ≤ 7) : fX13_isPerson i M = some (mx_in i P) := by
  rw [fX13_isPerson, h, m_isInP (by omega)]
  rfl
theorem m_isRing {i : Int32} {P : Nat} {M : MM} (h : M.1 2 1 = nI P) (hP : P ≤ 7) : fX13_isRing i M = some (mx_in i P) := by
  rw [fX13_isRing, h, m_isInP (by omega)]
  rfl
theorem x_isPerson {i : Int32} {P : Nat} {X : MM} (h : X.1 9 0 = nI P) (hP : P ≤ 7) : fX3_isPerson i X = some (mx_in i P) := by
  rw [fX3_isPerson, h, in_lt (by omega)]
  by_cases h0 : i < 0
  · rw [if_pos h0]; simp [h0]
  · rw [if_neg h0]
    by_cases h1 : nI P ≤ i
    · rw [if_pos h1]; simp [h0, h1]
    · rw [if_neg h1]; simp [h0, h1]
theorem x_isRing {i : Int32} {P : Nat} {X : MM} (h : X.1 9 1 = nI P) (hP : P ≤ 7) : fX3_isRing i X = some (mx_in i P) := by
  rw [fX3_isRing, h, in_lt (by omega)]
  by_cases h0 : i < 0
  · rw [if_pos h0]; simp [h0]
  · rw [if_neg h0]
    by_cases h1 : nI P ≤ i
    · rw [if_pos h1]; simp [h0, h1]
    · rw [if_neg h1]; simp [h0, h1]
theorem b_f : mx_b false = 0 := rfl
theorem b_t : ¬ mx_b true = 0 := by decide
theorem Inv.x0 {X Y : MM} {P N : Nat} (h : Inv X Y P N) : X.1 9 0 = nI P := h.rl.1.trans h.ld.1
theorem Inv.x1 {X Y : MM} {P N : Nat} (h : Inv X Y P N) : X.1 9 1 = nI N := h.rl.2.1.trans h.ld.2.2.1
theorem Inv.y0 {X Y : MM} {P N : Nat} (h : Inv X Y P N) : Y.1 2 0 = nI P := h.ld.1
theorem Inv.y1 {X Y : MM} {P N : Nat} (h : Inv X Y P N) : Y.1 2 1 = nI N := h.ld.2.2.1
theorem Inv.p7 {X Y : MM} {P N : Nat} (h : Inv X Y P N) : P ≤ 7 := h.ld.2.1
theorem Inv.n7 {X Y : MM} {P N : Nat} (h : Inv X Y P N) : N ≤ 7 := h.ld.2.2.2.1
theorem th2 {Y : MM} {v : Int32} {b : Nat} : (mx_si Y 0 0 v).1 2 b = Y.1 2 b := si_nk (by omega)
theorem th2' {Y : MM} {v : Int32} : (mx_si Y 0 0 v).1 2 = Y.1 2 := si_row (by omega)
theorem q_fault {X Y : MM} {P N : Nat} (h : Inv X Y P N) : RO (fX12_fault X) X (fX13_fault Y) := by
  refine ⟨_, _, rfl, ?_, P, N, h.th (v := 0)⟩
  rw [fX13_fault, si_nj (by omega), h.ft]
theorem q_fits {X Y : MM} {P N : Nat} {r p : Int32} (h : Inv X Y P N) : RO (fX12_fits r p X) X (fX13_fits r p Y) := by
  rw [fX12_fits, fX13_fits, x_isRing h.x1 h.n7, x_isPerson h.x0 h.p7, m_isRing (th2.trans h.y1) h.n7, m_isPerson (th2.trans h.y0) h.p7]
  simp only [pb_bs]
  rcases in_cases r N (by have := h.n7; omega) with hr | ⟨r, hr, rfl⟩
  · rw [hr, if_pos b_f, if_pos b_f]
    exact ⟨_, _, rfl, rfl, P, N, h.th⟩
  have hN := h.n7
  rw [pb_in hr (by omega), if_neg b_t, if_neg b_t]
  rcases in_cases p P (by have := h.p7; omega) with hp | ⟨p, hp, rfl⟩
  · rw [hp, if_pos b_f, if_pos b_f]
    exact ⟨_, _, rfl, rfl, P, N, h.th⟩
  have hP := h.p7
  obtain ⟨⟨z, z1, z2, ez⟩, -⟩ := h.ld.2.2.2.2.2.2.2.2 r hr
  rw [pb_in hp (by omega), if_neg b_t, if_neg b_t, pb_gd (by omega) (by omega), c26, nI_add, pb_gd (by omega) (by omega), nI_clamp (by omega), nI_clamp (by omega), (h.rl.2.2.2.2.2.2 r hr).1, th2, ez, x_feel h.ld h.rl (by omega) hp, m_feels (by omega), th2']
  exact ⟨_, _, rfl, rfl, P, N, h.th⟩
theorem q_count {X Y : MM} {P N : Nat} {i : Int32} (h : Inv X Y P N) : RO (fX12_count i X) X (fX13_count i Y) := by
  obtain ⟨L, hL, a, b, -⟩ := h.tp
  obtain ⟨l0, l1, l2, l3, l4, -⟩ := h.rl
  rw [fX12_count, fX13_count, si_nj (by omega), a, b]
  have key := m_isInP (i := i) (n := 5) (M := mx_si Y 0 0 (0 : Int32)) (by omega)
  have e4 : nI 5 - 1 = (4 : Int32) := by decide
  rw [e4] at key
  rw [key]
  simp only [pb_bs]
  by_cases h5 : i = 5
  · subst h5
    exact ⟨_, _, rfl, rfl, P, N, h.th⟩
  rw [if_neg h5]
  rcases in_cases i 5 (by omega) with hr | ⟨r, hr, rfl⟩
  · have n : ∀ k, k < 5 → i ≠ nI k := fun k hk e => by rw [e, pb_in hk (by omega)] at hr; cases hr
    rw [hr, if_pos b_f, if_neg (show ¬ i = 0 from n 0 (by omega)), if_neg (show ¬ i = 1 from n 1 (by omega)), if_neg (show ¬ i = 2 from n 2 (by omega)), if_neg (show ¬ i = 3 from n 3 (by omega)), if_neg (show ¬ i = 4 from n 4 (by omega)), if_neg h5]
    exact ⟨_, _, rfl, rfl, P, N, h.th⟩
  · rw [pb_in hr (by omega), if_neg b_t, pb_gd (by omega) (by omega), nI_clamp (by omega), th2, if_neg h5]
    rcases (by omega : r = 0 ∨ r = 1 ∨ r = 2 ∨ r = 3 ∨ r = 4) with rfl | rfl | rfl | rfl | rfl
    · exact ⟨_, _, rfl, by rw [l0], P, N, h.th⟩
    · exact ⟨_, _, rfl, by rw [l1], P, N, h.th⟩
    · exact ⟨_, _, rfl, by rw [l2], P, N, h.th⟩
    · exact ⟨_, _, rfl, by rw [l3], P, N, h.th⟩
    · exact ⟨_, _, rfl, by rw [l4], P, N, h.th⟩
theorem q_told {X Y : MM} {P N : Nat} {i : Int32} (h : Inv X Y P N) : RO (fX12_told i X) X (fX13_told i Y) := by
  rw [fX12_told, fX13_told, si_nj (by omega)]
  have key := m_isInP (i := i) (n := 4) (M := mx_si Y 0 0 (0 : Int32)) (by omega)
  have e4 : nI 4 - 1 = (3 : Int32) := by decide
  rw [e4] at key
  rw [key]
  simp only [pb_bs]
  rcases h.bk with ⟨a, b⟩ | ⟨a, b, c1, c2, c3, c4⟩
  · rw [a, b, if_pos rfl, if_pos rfl]
    exact ⟨_, _, rfl, rfl, P, N, h.th⟩
  have ne : ¬ (1 : Int32) = 0 := by decide
  rw [a, b, if_neg ne, if_neg ne]
  rcases in_cases i 4 (by omega) with hr | ⟨r, hr, rfl⟩
  · have n : ∀ k, k < 4 → i ≠ nI k := fun k hk e => by rw [e, pb_in hk (by omega)] at hr; cases hr
    rw [hr, if_pos b_f, if_neg (show ¬ i = 0 from n 0 (by omega)), if_neg (show ¬ i = 1 from n 1 (by omega)), if_neg (show ¬ i = 2 from n 2 (by omega)), if_neg (show ¬ i = 3 from n 3 (by omega))]
    exact ⟨_, _, rfl, rfl, P, N, h.th⟩
  · rw [pb_in hr (by omega), if_neg b_t, if_pos rfl, nI_clamp (by omega), si_nk (by omega)]
    rcases (by omega : r = 0 ∨ r = 1 ∨ r = 2 ∨ r = 3) with rfl | rfl | rfl | rfl
    · exact ⟨_, _, rfl, by rw [c1], P, N, h.th⟩
    · exact ⟨_, _, rfl, by rw [c2], P, N, h.th⟩
    · exact ⟨_, _, rfl, by rw [c3], P, N, h.th⟩
    · exact ⟨_, _, rfl, by rw [c4], P, N, h.th⟩
theorem q_sizeLeast {X Y : MM} {P N : Nat} (h : Inv X Y P N) : RO (fX12_sizeLeast X) X (fX13_sizeLeast Y) := by
  rw [fX12_sizeLeast, fX13_sizeLeast, si_nj (by omega), si_nj (by omega)]
  have ne : ¬ (1 : Int32) = 0 := by decide
  rcases h.fi with ⟨a, b, c⟩ | ⟨a, b, c⟩
  · rw [a, b, if_pos rfl]; exact ⟨_, _, rfl, rfl, P, N, h.th⟩
  · rw [a, b, if_neg ne]; exact ⟨_, _, rfl, rfl, P, N, h.th⟩
theorem q_knuckle {X Y : MM} {P N : Nat} (h : Inv X Y P N) : RO (fX12_knuckle X) X (fX13_knuckle Y) := by
  rw [fX12_knuckle, fX13_knuckle, si_nj (by omega), si_nj (by omega)]
  have ne : ¬ (1 : Int32) = 0 := by decide
  rcases h.fi with ⟨a, b, c⟩ | ⟨a, b, c⟩
  · rw [a, c, if_pos rfl]; exact ⟨_, _, rfl, rfl, P, N, h.th⟩
  · rw [a, c, if_neg ne]; exact ⟨_, _, rfl, rfl, P, N, h.th⟩
theorem x_at {i v : Int32} {n m : Nat} {f : Nat → Int32} (hv : v = nI n) (hn : n ≤ m) (hm : m ≤ 1000) : (if i < 0 then some (-1 : Int32) else if i < v then if mx_in i m then some (f i.toNatClampNeg) else none else some (-1 : Int32)) = some (if mx_in i n then f i.toNatClampNeg else -1) := by
  rcases in_cases i n (by omega) with hr | ⟨r, hr, rfl⟩
  · rw [hr]
    rw [in_lt (by omega)] at hr
    by_cases h0 : i < 0
    · rw [if_pos h0]; rfl
    · rw [if_neg h0]
      simp only [h0, decide_false, Bool.not_false, Bool.true_and, Bool.not_eq_false', decide_eq_true_eq] at hr
      rw [hv, if_neg (Int32.not_lt.mpr hr)]
      rfl
  · rw [pb_in hr (by omega), if_neg (nI_pos (by omega)), hv, if_pos (nI_lt hr (by omega)), if_pos (pb_in (by omega) (by omega)), if_pos rfl]
theorem neg_isIn {i : Int32} {M : MM} : fX13_isIn i (0 : Int32) ((-1 : Int32) - 1) M = some (mx_in i 0) := by
  rw [fX13_isIn, in_lt (by omega)]
  by_cases h0 : i < 0
  · rw [if_pos h0]; simp [h0]
  · have h1 : (-1 : Int32) - 1 < i := by
      obtain ⟨j, hj, rfl⟩ := nI_of h0
      rw [Int32.lt_iff_toInt_lt, nI_toInt hj]
      have : ((-1 : Int32) - 1).toInt = -2 := by decide
      omega
    obtain ⟨j, hj, rfl⟩ := nI_of h0
    have h2 : nI 0 ≤ nI j := nI_le (by omega) hj
    rw [if_neg h0, if_pos h1]
    simp [h0, h2]
theorem q_tourAt {X Y : MM} {P N : Nat} {i : Int32} (h : Inv X Y P N) : RO (fX12_tourAt i X) X (fX13_tourAt i Y) := by
  obtain ⟨⟨n, hn, a1, a2, a3⟩, -⟩ := h.pl
  rw [fX12_tourAt, x_at (f := X.1 144) a1 hn (by omega), fX13_tourAt, si_nj (by omega)]
  have e : fX13_isIn i (0 : Int32) (Y.1 0 26 - 1) (mx_si Y 0 0 (0 : Int32)) = some (mx_in i n) := by
    rcases a2 with a2 | ⟨rfl, a2⟩
    · rw [a2, m_isInP (by omega)]
    · rw [a2, neg_isIn]
  rw [e]
  simp only [pb_bs]
  rcases in_cases i n (by omega) with hr | ⟨r, hr, rfl⟩
  · rw [hr, if_pos b_f]; exact ⟨_, _, rfl, rfl, P, N, h.th⟩
  · rw [pb_in hr (by omega), if_neg b_t, pb_gd (by omega) (by omega), nI_clamp (by omega), if_pos rfl, a3 r hr, si_nk (by omega)]
    exact ⟨_, _, rfl, rfl, P, N, h.th⟩
theorem q_keeperOf {X Y : MM} {P N : Nat} {i : Int32} (h : Inv X Y P N) : RO (fX12_keeperOf i X) X (fX13_keeperOf i Y) := by
  obtain ⟨-, n, hn, a2, a3⟩ := h.pl
  rw [fX12_keeperOf, x_at (f := X.1 145) (v := (7 : Int32)) (n := 7) rfl (by omega) (by omega), fX13_keeperOf, si_nj (by omega)]
  have e : fX13_isIn i (0 : Int32) (Y.1 0 29 - 1) (mx_si Y 0 0 (0 : Int32)) = some (mx_in i n) := by
    rcases a2 with a2 | ⟨rfl, a2⟩
    · rw [a2, m_isInP (by omega)]
    · rw [a2, neg_isIn]
  rw [e]
  simp only [pb_bs]
  rcases in_cases i n (by omega) with hr | ⟨r, hr, rfl⟩
  · rw [hr, if_pos b_f]
    refine ⟨_, _, rfl, ?_, P, N, h.th (v := 0)⟩
    rcases in_cases i 7 (by omega) with hr' | ⟨r, hr', rfl⟩
    · rw [hr']; rfl
    · have : ¬ r < n := fun e => by rw [pb_in e (by omega)] at hr; cases hr
      rw [if_pos (pb_in hr' (by omega)), nI_clamp (by omega), a3 r hr', if_neg this]
  · rw [pb_in hr (by omega), if_neg b_t, pb_gd (by omega) (by omega), nI_clamp (by omega), if_pos (pb_in (by omega) (by omega)), a3 r (by omega), if_pos hr, si_nk (by omega)]
    exact ⟨_, _, rfl, rfl, P, N, h.th⟩
theorem q_byteAt {X Y : MM} {P N : Nat} {i : Int32} (h : Inv X Y P N) : RO (fX12_byteAt i X) X (fX13_byteAt i Y) := by
  obtain ⟨n, hn, a1, a2, a3⟩ := h.nt
  rw [fX12_byteAt, x_at (f := X.1 153) a1 (by omega) (by omega), fX13_byteAt, si_nj (by omega), a2, m_isInP (by omega)]
  simp only [pb_bs]
  rcases in_cases i n (by omega) with hr | ⟨r, hr, rfl⟩
  · rw [hr, if_pos b_f]; exact ⟨_, _, rfl, rfl, P, N, h.th⟩
  · rw [pb_in hr (by omega), if_neg b_t, pb_gd (by omega) (by omega), nI_clamp (by omega), if_pos rfl, a3 r hr, si_nk (by omega)]
    exact ⟨_, _, rfl, rfl, P, N, h.th⟩
theorem q_now {X Y : MM} {P N : Nat} {i : Int32} (h : Inv X Y P N) : RO (fX12_now i X) X (fX13_now i Y) := by
  obtain ⟨g1, g2, g3, -, g5⟩ := h.rs
  have e1 : ∀ v, fX13_ringsBy (85 : Int32) v (mx_si Y 0 0 (0 : Int32)) = some (sBy (Y.1 2) N 85 v) := fun v => by
    rw [c85, m_ringsBy (by omega) h.n7 (th2.trans h.y1), th2']
  have e2 : ∀ v, fX13_ringsBy (92 : Int32) v (mx_si Y 0 0 (0 : Int32)) = some (sBy (Y.1 2) N 92 v) := fun v => by
    rw [c92, m_ringsBy (by omega) h.n7 (th2.trans h.y1), th2']
  have e3 : ∀ v, fX9_ringsThatAre 29 v X = some (sBy (Y.1 2) N 85 v) := fun v => by
    rw [fX9_ringsThatAre, x_ringsWith (S := Y.1 2) (row := 85) h.x1 h.n7 (fun r hr => (g5 r hr).1)]; rfl
  have e4 : ∀ v, fX9_ringsThatWere 29 v X = some (sBy (Y.1 2) N 92 v) := fun v => by
    rw [fX9_ringsThatWere, x_ringsWith (S := Y.1 2) (row := 92) h.x1 h.n7 (fun r hr => (g5 r hr).2.1)]; rfl
  rw [fX12_now, fX13_now, e1, e1, e2, e2, e3, e3, e4, e4, th2, th2, th2, g1, g2, g3]
  simp only [pb_bs]
  repeat' split
  all_goals exact ⟨_, _, rfl, rfl, P, N, h.th⟩
