/-! person and ring: the class answers or throws as the reference says -/
theorem th_t {Y : MM} : fX13_throwsIf (mx_b true) Y = some (true, mx_si Y 0 0 1) := by
  rw [fX13_throwsIf, if_neg (by decide), fX13_throwsIf_10, if_pos (by decide)]
  rfl
theorem th_f {Y : MM} : fX13_throwsIf (mx_b false) Y = some (false, mx_si Y 0 0 0) := by
  rw [fX13_throwsIf, if_pos (by decide), fX13_throwsIf_10, if_pos (by decide)]
  rfl
theorem q_person {X Y : MM} {P N : Nat} {a b : Int32} (h : Inv X Y P N) : (∃ v, fX12_person a b X = some v ∧ fX13_person a b Y = some (v, mx_si Y 0 0 0)) ∨ ((fX3_isPerson a X = some false ∨ (fX3_isPerson a X = some true ∧ mx_in b 7 = false)) ∧ fX13_person a b Y = some (0, mx_si Y 0 0 1)) := by
  have hx := x_isPerson (i := a) h.x0 h.p7
  have hy := m_isPerson (i := a) h.y0 h.p7
  have key := m_isInP (i := b) (n := 7) (M := Y) (by omega)
  have e6 : nI 7 - 1 = (6 : Int32) := by decide
  rw [e6] at key
  have hP := h.p7
  have hN := h.n7
  have t1 : fX13_person_24 a b true Y = some (0, mx_si Y 0 0 1) := by
    rw [fX13_person_24, th_t, pb_bs, if_neg (show ¬ mx_b (true, mx_si Y 0 0 1).1 = 0 from b_t)]
  rcases in_cases a P (by omega) with ha | ⟨p, hp, rfl⟩
  · right
    rw [ha] at hx hy
    refine ⟨Or.inl hx, ?_⟩
    rw [fX13_person, hy, pb_bs, if_pos b_f, fX13_person_19, t1]
  rw [pb_in hp (by omega)] at hx hy
  rcases in_cases b 7 (by omega) with hb | ⟨w, hw, rfl⟩
  · right
    rw [hb] at key
    refine ⟨Or.inr ⟨hx, hb⟩, ?_⟩
    rw [fX13_person, hy, pb_bs, if_neg b_t, key, pb_bs, if_pos b_f, fX13_person_19, t1]
  left
  rw [pb_in hw (by omega)] at key
  rw [fX12_person, fX13_person, hx, hy, pb_bs, pb_bs, if_neg b_t, if_neg b_t, key, pb_bs, if_neg b_t, fX13_person_24, th_f, pb_bs, if_pos (show mx_b (false, mx_si Y 0 0 0).1 = 0 from rfl)]
  have hs := h.rs.2.2.2.1 p hp
  have hl := h.rl.2.2.2.2.2.1 p hp
  match w, hw with
  | 0, _ =>
    simp only [eq_true (show nI 0 = (0 : Int32) by decide), if_true, if_false]
    rw [pb_gd (by omega) (by omega), c57, nI_add, pb_gd (by omega) (by omega), nI_clamp (by omega), nI_clamp (by omega)]
    refine ⟨_, rfl, ?_⟩
    show some ((mx_si Y 0 0 0).1 2 (57 + p), _) = _
    rw [th2, ← hs.1]
  | 1, _ =>
    simp only [eq_false (show ¬ nI 1 = (0 : Int32) by decide), eq_true (show nI 1 = (1 : Int32) by decide), if_true, if_false]
    rw [pb_gd (by omega) (by omega), c64, nI_add, pb_gd (by omega) (by omega), nI_clamp (by omega), nI_clamp (by omega)]
    refine ⟨_, rfl, ?_⟩
    show some ((mx_si Y 0 0 0).1 2 (64 + p), _) = _
    rw [th2, ← hs.2.1]
  | 2, _ =>
    simp only [eq_false (show ¬ nI 2 = (0 : Int32) by decide), eq_false (show ¬ nI 2 = (1 : Int32) by decide), eq_true (show nI 2 = (2 : Int32) by decide), if_true, if_false]
    rw [pb_gd (by omega) (by omega), c19, nI_add, pb_gd (by omega) (by omega), nI_clamp (by omega), nI_clamp (by omega)]
    refine ⟨_, rfl, ?_⟩
    show some ((mx_si Y 0 0 0).1 2 (19 + p), _) = _
    rw [th2, ← hl.2.2]
  | 3, _ =>
    simp only [eq_false (show ¬ nI 3 = (0 : Int32) by decide), eq_false (show ¬ nI 3 = (1 : Int32) by decide), eq_false (show ¬ nI 3 = (2 : Int32) by decide), eq_true (show nI 3 = (3 : Int32) by decide), if_true, if_false]
    rw [pb_gd (by omega) (by omega), c71, nI_add, pb_gd (by omega) (by omega), nI_clamp (by omega), nI_clamp (by omega)]
    refine ⟨_, rfl, ?_⟩
    show some ((mx_si Y 0 0 0).1 2 (71 + p), _) = _
    rw [th2, ← hs.2.2]
  | 4, _ =>
    simp only [eq_false (show ¬ nI 4 = (0 : Int32) by decide), eq_false (show ¬ nI 4 = (1 : Int32) by decide), eq_false (show ¬ nI 4 = (2 : Int32) by decide), eq_false (show ¬ nI 4 = (3 : Int32) by decide), eq_true (show nI 4 = (4 : Int32) by decide), if_true, if_false]
    rw [x_keptBy h.x1 h.rs hN, m_keptBy (M := mx_si Y 0 0 0) hN (th2.trans h.y1), pb_bs, pb_bs, th2']
    exact ⟨_, rfl, rfl⟩
  | 5, _ =>
    simp only [eq_false (show ¬ nI 5 = (0 : Int32) by decide), eq_false (show ¬ nI 5 = (1 : Int32) by decide), eq_false (show ¬ nI 5 = (2 : Int32) by decide), eq_false (show ¬ nI 5 = (3 : Int32) by decide), eq_false (show ¬ nI 5 = (4 : Int32) by decide), eq_true (show nI 5 = (5 : Int32) by decide), if_true, if_false]
    rw [x_wornBy h.x1 h.rs hN, m_wornBy (M := mx_si Y 0 0 0) hN (th2.trans h.y1), pb_bs, pb_bs, th2']
    exact ⟨_, rfl, rfl⟩
  | 6, _ =>
    simp only [eq_false (show ¬ nI 6 = (0 : Int32) by decide), eq_false (show ¬ nI 6 = (1 : Int32) by decide), eq_false (show ¬ nI 6 = (2 : Int32) by decide), eq_false (show ¬ nI 6 = (3 : Int32) by decide), eq_false (show ¬ nI 6 = (4 : Int32) by decide), eq_false (show ¬ nI 6 = (5 : Int32) by decide), eq_true (show nI 6 = (6 : Int32) by decide), if_true, if_false]
    rw [x_ownedBy h.rl h.y1 hN, m_ownedBy (M := mx_si Y 0 0 0) hN (th2.trans h.y1), pb_bs, pb_bs, th2']
    exact ⟨_, rfl, rfl⟩
  | n + 7, hw => exact absurd hw (by omega)
theorem q_ring {X Y : MM} {P N : Nat} {a b : Int32} (h : Inv X Y P N) : (∃ v, fX12_ring a b X = some v ∧ fX13_ring a b Y = some (v, mx_si Y 0 0 0)) ∨ ((fX3_isRing a X = some false ∨ (fX3_isRing a X = some true ∧ mx_in b 8 = false)) ∧ fX13_ring a b Y = some (0, mx_si Y 0 0 1)) := by
  have hx := x_isRing (i := a) h.x1 h.n7
  have hy := m_isRing (i := a) h.y1 h.n7
  have key := m_isInP (i := b) (n := 8) (M := Y) (by omega)
  have e6 : nI 8 - 1 = (7 : Int32) := by decide
  rw [e6] at key
  have hP := h.p7
  have hN := h.n7
  have t1 : fX13_ring_24 a b true Y = some (0, mx_si Y 0 0 1) := by
    rw [fX13_ring_24, th_t, pb_bs, if_neg (show ¬ mx_b (true, mx_si Y 0 0 1).1 = 0 from b_t)]
  rcases in_cases a N (by omega) with ha | ⟨r, hr, rfl⟩
  · right
    rw [ha] at hx hy
    refine ⟨Or.inl hx, ?_⟩
    rw [fX13_ring, hy, pb_bs, if_pos b_f, fX13_ring_19, t1]
  rw [pb_in hr (by omega)] at hx hy
  rcases in_cases b 8 (by omega) with hb | ⟨w, hw, rfl⟩
  · right
    rw [hb] at key
    refine ⟨Or.inr ⟨hx, hb⟩, ?_⟩
    rw [fX13_ring, hy, pb_bs, if_neg b_t, key, pb_bs, if_pos b_f, fX13_ring_19, t1]
  left
  rw [pb_in hw (by omega)] at key
  rw [fX12_ring, fX13_ring, hx, hy, pb_bs, pb_bs, if_neg b_t, if_neg b_t, key, pb_bs, if_neg b_t, fX13_ring_24, th_f, pb_bs, if_pos (show mx_b (false, mx_si Y 0 0 0).1 = 0 from rfl), c85, nI_add, pb_gd (a := 85 + r) (n := 294) (by omega) (by omega), show (nI (85 + r)).toNatClampNeg = 85 + r from nI_clamp (by omega)]
  have hs := h.rs.2.2.2.2 r hr
  have hl := h.rl.2.2.2.2.2.2 r hr
  obtain ⟨⟨u, hu, eu⟩, how, ⟨lx, -, elx⟩, ly, -, ely⟩ := h.st.2.2 r hr
  have hd : (if (mx_si Y 0 0 0).1 2 (85 + r) = (2 : Int32) then fX13_ring_50 (nI r) (nI w) true (mx_si Y 0 0 0) else fX13_ring_50 (nI r) (nI w) false (mx_si Y 0 0 0)) = fX13_ring_50 (nI r) (nI w) (decide (Y.1 2 (85 + r) = 2)) (mx_si Y 0 0 0) := by
    rw [th2]
    by_cases h2 : Y.1 2 (85 + r) = 2
    · rw [if_pos h2, decide_eq_true h2]
    · rw [if_neg h2, decide_eq_false h2]
  show ∃ v, _ ∧ (if (mx_si Y 0 0 0).1 2 (85 + r) = (2 : Int32) then fX13_ring_50 (nI r) (nI w) true (mx_si Y 0 0 0) else fX13_ring_50 (nI r) (nI w) false (mx_si Y 0 0 0)) = _
  rw [hd, fX13_ring_50]
  match w, hw with
  | 0, _ =>
    simp only [eq_true (show nI 0 = (0 : Int32) by decide), if_true, if_false]
    rw [pb_gd (by omega) (by omega), c26, nI_add, pb_gd (by omega) (by omega), nI_clamp (by omega), nI_clamp (by omega), th2]
    exact ⟨_, rfl, by rw [← hl.1]⟩
  | 1, _ =>
    simp only [eq_false (show ¬ nI 1 = (0 : Int32) by decide), eq_true (show nI 1 = (1 : Int32) by decide), if_true, if_false]
    rw [pb_gd (by omega) (by omega), c33, nI_add, pb_gd (by omega) (by omega), nI_clamp (by omega), nI_clamp (by omega), th2]
    exact ⟨_, rfl, by rw [← hl.2.1]⟩
  | 2, _ =>
    simp only [eq_false (show ¬ nI 2 = (0 : Int32) by decide), eq_false (show ¬ nI 2 = (1 : Int32) by decide), eq_true (show nI 2 = (2 : Int32) by decide), if_true, if_false]
    rw [pb_gd (by omega) (by omega), c78, nI_add, pb_gd (by omega) (by omega), nI_clamp (by omega), nI_clamp (by omega), th2]
    by_cases h2 : Y.1 2 (85 + r) = 2
    · rw [decide_eq_true h2, if_neg b_t]
      exact ⟨_, rfl, by rw [← (hs.2.2.2 h2).1]⟩
    · rw [decide_eq_false h2, if_pos b_f]
      exact ⟨_, rfl, by rw [← hs.2.2.1 h2]⟩
  | 3, _ =>
    simp only [eq_false (show ¬ nI 3 = (0 : Int32) by decide), eq_false (show ¬ nI 3 = (1 : Int32) by decide), eq_false (show ¬ nI 3 = (2 : Int32) by decide), eq_true (show nI 3 = (3 : Int32) by decide), if_true, if_false]
    rw [pb_gd (by omega) (by omega), c47, nI_add, pb_gd (by omega) (by omega), nI_clamp (by omega), nI_clamp (by omega), th2]
    exact ⟨_, rfl, by rw [← hl.2.2.2]⟩
  | 4, _ =>
    simp only [eq_false (show ¬ nI 4 = (0 : Int32) by decide), eq_false (show ¬ nI 4 = (1 : Int32) by decide), eq_false (show ¬ nI 4 = (2 : Int32) by decide), eq_false (show ¬ nI 4 = (3 : Int32) by decide), eq_true (show nI 4 = (4 : Int32) by decide), if_true, if_false]
    rw [pb_gd (by omega) (by omega), c85, nI_add, pb_gd (by omega) (by omega), nI_clamp (by omega), nI_clamp (by omega), th2]
    exact ⟨_, rfl, by rw [← hs.1]⟩
  | 5, _ =>
    simp only [eq_false (show ¬ nI 5 = (0 : Int32) by decide), eq_false (show ¬ nI 5 = (1 : Int32) by decide), eq_false (show ¬ nI 5 = (2 : Int32) by decide), eq_false (show ¬ nI 5 = (3 : Int32) by decide), eq_false (show ¬ nI 5 = (4 : Int32) by decide), eq_true (show nI 5 = (5 : Int32) by decide), if_true, if_false]
    rw [pb_gd (by omega) (by omega), c92, nI_add, pb_gd (by omega) (by omega), nI_clamp (by omega), nI_clamp (by omega), th2]
    exact ⟨_, rfl, by rw [← hs.2.1]⟩
  | 6, _ =>
    simp only [eq_false (show ¬ nI 6 = (0 : Int32) by decide), eq_false (show ¬ nI 6 = (1 : Int32) by decide), eq_false (show ¬ nI 6 = (2 : Int32) by decide), eq_false (show ¬ nI 6 = (3 : Int32) by decide), eq_false (show ¬ nI 6 = (4 : Int32) by decide), eq_false (show ¬ nI 6 = (5 : Int32) by decide), eq_true (show nI 6 = (6 : Int32) by decide), if_true, if_false]
    rw [fX9_ringX, pb_gd (by omega) (by omega), nI_clamp (by omega), x_isPerson h.x0 h.p7, pb_bs, c78, nI_add, pb_gd (by omega) (by omega), nI_clamp (by omega), th2]
    by_cases h2 : Y.1 2 (85 + r) = 2
    · rw [(hs.2.2.2 h2).1, show mx_in (-1 : Int32) P = false from (by simp [mx_in]), if_pos b_f, pb_bs, decide_eq_true h2, if_neg b_t, c99, nI_add, pb_gd (a := 99 + r) (n := 294) (by omega) (by omega), nI_clamp (by omega), th2]
      exact ⟨_, rfl, by rw [← (hs.2.2.2 h2).2.1]⟩
    · rw [hs.2.2.1 h2, eu, pb_in hu (by omega), if_neg b_t, pb_gd (a := u) (n := 7) (by omega) (by omega), pb_bs, decide_eq_false h2, if_pos b_f, pb_gd (a := 78 + r) (n := 294) (by omega) (by omega), c57, nI_add, pb_gd (a := 57 + u) (n := 294) (by omega) (by omega), nI_clamp (by omega), nI_clamp (by omega), th2]
      exact ⟨_, rfl, by rw [← (h.rs.2.2.2.1 u hu).1]⟩
  | 7, _ =>
    simp only [eq_false (show ¬ nI 7 = (0 : Int32) by decide), eq_false (show ¬ nI 7 = (1 : Int32) by decide), eq_false (show ¬ nI 7 = (2 : Int32) by decide), eq_false (show ¬ nI 7 = (3 : Int32) by decide), eq_false (show ¬ nI 7 = (4 : Int32) by decide), eq_false (show ¬ nI 7 = (5 : Int32) by decide), eq_false (show ¬ nI 7 = (6 : Int32) by decide), eq_true (show nI 7 = (7 : Int32) by decide), if_true, if_false]
    rw [fX9_ringY, pb_gd (by omega) (by omega), nI_clamp (by omega), x_isPerson h.x0 h.p7, pb_bs, c78, nI_add, pb_gd (by omega) (by omega), nI_clamp (by omega), th2]
    by_cases h2 : Y.1 2 (85 + r) = 2
    · rw [(hs.2.2.2 h2).1, show mx_in (-1 : Int32) P = false from (by simp [mx_in]), if_pos b_f, pb_bs, decide_eq_true h2, if_neg b_t, c106, nI_add, pb_gd (a := 106 + r) (n := 294) (by omega) (by omega), nI_clamp (by omega), th2]
      exact ⟨_, rfl, by rw [← (hs.2.2.2 h2).2.2]⟩
    · rw [hs.2.2.1 h2, eu, pb_in hu (by omega), if_neg b_t, pb_gd (a := u) (n := 7) (by omega) (by omega), pb_bs, decide_eq_false h2, if_pos b_f, pb_gd (a := 78 + r) (n := 294) (by omega) (by omega), c64, nI_add, pb_gd (a := 64 + u) (n := 294) (by omega) (by omega), nI_clamp (by omega), nI_clamp (by omega), th2]
      exact ⟨_, rfl, by rw [← (h.rs.2.2.2.1 u hu).2.1]⟩
  | n + 8, hw => exact absurd hw (by omega)
