/-! a sentence: what both write -/
def SR0 (P N n t ones d : Nat) (σ π : List Nat) (wh : Bool) (X Y : MM) : Prop :=
  SB P N X Y ∧ (X.1 134 4 = nI ones ∧ Y.1 0 44 = nI ones ∧ ones ≤ 20) ∧ (Y.1 0 43 = nI n ∧ n + π.length + t ≤ 2 * ones) ∧ (stR (π ++ σ) Y ∧ Y.1 0 45 = nI (π ++ σ).length ∧ (π ++ σ).length ≤ 45) ∧ (Y.1 0 46 = nI (d + cN π) ∧ d ≤ 100 ∧ Y.1 0 47 = mx_b wh) ∧ pdR π n X ∧ (∀ i, i < n → rC P N (X.2.2 135 i) (X.1 136 i) (X.1 137 i) (Y.1 4 (3 * i)) (Y.1 4 (3 * i + 1)) (Y.1 4 (3 * i + 2))) ∧ rDp (Y.1 4) n = some (t + cB π)
theorem SR.s0 {T : TX} {P N s n t ones d : Nat} {σ π : List Nat} {wh : Bool} {X Y : MM} (h : SR T P N s n t ones d σ π wh X Y) : SR0 P N n t ones d σ π wh X Y := h.2
theorem SR0.up {T : TX} {P N s n t ones d : Nat} {σ π : List Nat} {wh : Bool} {X Y : MM} (h : SR0 P N n t ones d σ π wh X Y) (hL : LX T s X Y) : SR T P N s n t ones d σ π wh X Y := ⟨hL, h⟩
theorem SR0.n {P N n t ones d : Nat} {σ π : List Nat} {wh : Bool} {X Y X' Y' : MM} (h : SR0 P N n t ones d σ π wh X Y) (hX : nX X X') (hY : nY Y Y') : SR0 P N n t ones d σ π wh X' Y' := by
  obtain ⟨h2, ⟨h3, h4, h5⟩, ⟨h6, h7⟩, ⟨h8, h9, h10⟩, ⟨h11, h11', h12⟩, h13, h14, h15⟩ := h
  have e4 : Y'.1 4 = Y.1 4 := hY.row (by omega)
  refine ⟨h2.w hX.w hY.w, ⟨by rw [hX.1 _ _ (by omega)]; exact h3, by rw [hY.1 _ _ (by omega)]; exact h4, h5⟩, ⟨by rw [hY.1 _ _ (by omega)]; exact h6, h7⟩, ⟨stR.fr _ (fun i _ => by rw [hY.row (by omega)]) h8, by rw [hY.1 _ _ (by omega)]; exact h9, h10⟩, ⟨by rw [hY.1 _ _ (by omega)]; exact h11, h11', by rw [hY.1 _ _ (by omega)]; exact h12⟩, pdR.fr _ _ (hX.1 _ _ (by omega)) (fun i => by rw [hX.2]) (fun i => hX.1 _ _ (by omega)) (fun i => hX.1 _ _ (by omega)) h13, fun i hi => ?_, by rw [e4]; exact h15⟩
  rw [hX.2, hX.1 _ _ (by omega), hX.1 _ _ (by omega), e4]
  exact h14 i hi
theorem x_put {X : MM} {m w : Nat} {a b : Int32} (h : X.1 134 3 = nI m) (hm : m < 40) (hw : w < 24) : fX8_put w a b X = some (mx_si (mx_si (mx_si (mx_sr X 135 m w) 136 m a) 137 m b) 134 3 (nI (m + 1))) := by
  have hin : mx_in (nI m) 40 = true := pb_in hm (by omega)
  have hcl : (nI m).toNatClampNeg = m := nI_clamp (by omega)
  have n1 : (134 : Nat) ≠ 136 := by omega
  have n2 : (134 : Nat) ≠ 137 := by omega
  rw [fX8_put, h, if_neg (show ¬ (40 : Int32) ≤ nI m from nI_ge (b := 40) hm (by omega))]
  simp only [sr_i, si_nk n1, si_nk n2, h, hin, hcl, ↓reduceIte, hw, nI_1]
theorem put_X {X : MM} {m w : Nat} {a b : Int32} (hw : w < 24) : WX X (mx_si (mx_si (mx_si (mx_sr X 135 m w) 136 m a) 137 m b) 134 3 (nI (m + 1))) := (((WX.rf.sr (by omega)).si (by omega)).si (by omega)).si (by omega)
theorem put_L {T : TX} {s : Nat} {X Y : MM} {m w : Nat} {a b : Int32} (h : LX T s X Y) : LX T s (mx_si (mx_si (mx_si (mx_sr X 135 m w) 136 m a) 137 m b) 134 3 (nI (m + 1))) Y := (((h.xr (by omega)).xs (by omega)).xs (by omega)).xs (by omega)
theorem put_f {X : MM} {m w : Nat} {a b : Int32} : ∀ i, i ≠ m → (mx_si (mx_si (mx_si (mx_sr X 135 m w) 136 m a) 137 m b) 134 3 (nI (m + 1))).2.2 135 i = X.2.2 135 i ∧ (mx_si (mx_si (mx_si (mx_sr X 135 m w) 136 m a) 137 m b) 134 3 (nI (m + 1))).1 136 i = X.1 136 i ∧ (mx_si (mx_si (mx_si (mx_sr X 135 m w) 136 m a) 137 m b) 134 3 (nI (m + 1))).1 137 i = X.1 137 i := by
  intro i hi
  refine ⟨?_, ?_, ?_⟩
  · show (if _ then _ else _) = _
    rw [if_neg (by omega)]
  · rw [si_nk (by omega), si_nk (by omega), si_nj hi, sr_i]
  · rw [si_nk (by omega), si_nj hi, si_nk (by omega), sr_i]
theorem put_m {X : MM} {m w : Nat} {a b : Int32} : (mx_si (mx_si (mx_si (mx_sr X 135 m w) 136 m a) 137 m b) 134 3 (nI (m + 1))).2.2 135 m = w ∧ (mx_si (mx_si (mx_si (mx_sr X 135 m w) 136 m a) 137 m b) 134 3 (nI (m + 1))).1 136 m = a ∧ (mx_si (mx_si (mx_si (mx_sr X 135 m w) 136 m a) 137 m b) 134 3 (nI (m + 1))).1 137 m = b ∧ (mx_si (mx_si (mx_si (mx_sr X 135 m w) 136 m a) 137 m b) 134 3 (nI (m + 1))).1 134 3 = nI (m + 1) ∧ (mx_si (mx_si (mx_si (mx_sr X 135 m w) 136 m a) 137 m b) 134 3 (nI (m + 1))).1 134 4 = X.1 134 4 := by
  refine ⟨sr_eq, ?_, ?_, si_eq, ?_⟩
  · rw [si_nk (by omega), si_nk (by omega), si_eq]
  · rw [si_nk (by omega), si_eq]
  · rw [si_nj (by omega), si_nk (by omega), si_nk (by omega), sr_i]
/-- the class writes what waits on the reference's stack -/
theorem SR.put {T : TX} {P N s n t t1 ones d d1 o : Nat} {σ π : List Nat} {X Y : MM} (h : SR T P N s n t1 ones d1 (o :: σ) π true X Y) (ho : (o = 20 ∧ t1 = t ∧ d1 = d + 1) ∨ ((o = 21 ∨ o = 22) ∧ t1 = t + 1 ∧ d1 = d)) (ht : 1 ≤ t) (hz : n + π.length + 1 + t ≤ 2 * ones) : ∃ X', fX8_put (34 - o) 0 0 X = some X' ∧ SR T P N s n t ones d σ (π ++ [o]) true X' Y ∧ WX X X' := by
  obtain ⟨h1, h2, ⟨h3, h4, h5⟩, ⟨h6, h7⟩, ⟨h8, h9, h10⟩, ⟨h11, h11', h12⟩, h13, h14, h15⟩ := h
  have sz := pdR.sz _ _ h13
  have hw : 34 - o < 24 := by omega
  have ap : (π ++ [o]) ++ σ = π ++ (o :: σ) := by rw [List.append_assoc]; rfl
  obtain ⟨m1, m2, m3, m4, m5⟩ := put_m (X := X) (m := n + π.length) (w := 34 - o) (a := 0) (b := 0)
  refine ⟨_, x_put sz (by omega) hw, ⟨put_L h1, h2.w (put_X hw) WY.rf, ⟨by rw [m5]; exact h3, h4, h5⟩, ⟨h6, by rw [List.length_append, List.length_singleton]; omega⟩, ⟨by rw [ap]; exact h8, by rw [ap]; exact h9, by rw [ap]; exact h10⟩, ⟨?_, by omega, h12⟩, pdR.app π n h13 m4 put_f m1 m2 m3, fun i hi => ?_, ?_⟩, put_X hw⟩
  · rw [h11, cN_app, cN, cN]
    congr 1
    rcases ho with ⟨rfl, -, rfl⟩ | ⟨q, -, rfl⟩
    · rw [if_pos rfl]; omega
    · rw [if_neg (by omega)]; omega
  · obtain ⟨q1, q2, q3⟩ := put_f (X := X) (m := n + π.length) (w := 34 - o) (a := 0) (b := 0) i (by omega)
    rw [q1, q2, q3]
    exact h14 i hi
  · rw [h15, cB_app, cB, cB]
    congr 1
    rcases ho with ⟨rfl, rfl, -⟩ | ⟨q, rfl, -⟩
    · rw [if_neg (by omega)]; omega
    · rw [if_pos q]; omega
/-- a leaf, written by both -/
theorem SR0.leaf {P N n t ones d l : Nat} {σ : List Nat} {X Y : MM} {a b : Int32} (h : SR0 P N n t ones d σ [] true X Y) (hz : n + 1 + (t + 1) ≤ 2 * ones) (hl : l ≤ 8) (h3' : l = 3 → ∃ r, r < N ∧ b = nI r) (h4' : l = 4 → ∃ q, q < P ∧ b = nI q) (h5' : 5 ≤ l → a = 60 ∨ a = 61 ∨ a = 62) : ∃ X' Y', fX8_put (15 + l) a b X = some X' ∧ fX13_code (nI l) a b Y = some Y' ∧ SR0 P N (n + 1) (t + 1) ones d σ [] true X' Y' ∧ WX X X' ∧ WY Y Y' ∧ (∀ T s Z, LX T s X Z → LX T s X' Z) ∧ ∀ T s Z, LX T s Z Y → LX T s Z Y' := by
  obtain ⟨h2, ⟨h3, h4, h5⟩, ⟨h6, h7⟩, ⟨h8, h9, h10⟩, ⟨h11, h11', h12⟩, h13, h14, h15⟩ := h
  have hw : 15 + l < 24 := by omega
  obtain ⟨m1, m2, m3, m4, m5⟩ := put_m (X := X) (m := n) (w := 15 + l) (a := a) (b := b)
  have wX := put_X (X := X) (m := n) (a := a) (b := b) hw
  have wY : WY Y (mx_si (mx_si (mx_si (mx_si Y 4 (3 * n) (nI l)) 4 (3 * n + 1) a) 4 (3 * n + 2) b) 0 43 (nI (n + 1))) := (((WY.rf.si (by omega)).si (by omega)).si (by omega)).si (by omega)
  have r0 : ∀ j, j ≠ 43 → (mx_si (mx_si (mx_si (mx_si Y 4 (3 * n) (nI l)) 4 (3 * n + 1) a) 4 (3 * n + 2) b) 0 43 (nI (n + 1))).1 0 j = Y.1 0 j := fun j hj => by rw [si_nj hj, si_nk (by omega), si_nk (by omega), si_nk (by omega)]
  have r4 : ∀ j, j < 3 * n → (mx_si (mx_si (mx_si (mx_si Y 4 (3 * n) (nI l)) 4 (3 * n + 1) a) 4 (3 * n + 2) b) 0 43 (nI (n + 1))).1 4 j = Y.1 4 j := fun j hj => by rw [si_nk (by omega), si_nj (by omega), si_nj (by omega), si_nj (by omega)]
  have a0 : (mx_si (mx_si (mx_si (mx_si Y 4 (3 * n) (nI l)) 4 (3 * n + 1) a) 4 (3 * n + 2) b) 0 43 (nI (n + 1))).1 4 (3 * n) = nI l := by rw [si_nk (by omega), si_nj (by omega), si_nj (by omega), si_eq]
  have a1 : (mx_si (mx_si (mx_si (mx_si Y 4 (3 * n) (nI l)) 4 (3 * n + 1) a) 4 (3 * n + 2) b) 0 43 (nI (n + 1))).1 4 (3 * n + 1) = a := by rw [si_nk (by omega), si_nj (by omega), si_eq]
  have a2 : (mx_si (mx_si (mx_si (mx_si Y 4 (3 * n) (nI l)) 4 (3 * n + 1) a) 4 (3 * n + 2) b) 0 43 (nI (n + 1))).1 4 (3 * n + 2) = b := by rw [si_nk (by omega), si_eq]
  refine ⟨_, _, x_put h13 (by omega) hw, m_code h6 (by omega), ⟨h2.w wX wY, ⟨by rw [m5]; exact h3, by rw [r0 44 (by omega)]; exact h4, h5⟩, ⟨si_eq, by simpa using hz⟩, ⟨stR.fr _ (fun i _ => by rw [si_nk (by omega), si_nk (by omega), si_nk (by omega), si_nk (by omega)]) h8, by rw [r0 45 (by omega)]; exact h9, h10⟩, ⟨by rw [r0 46 (by omega)]; exact h11, h11', by rw [r0 47 (by omega)]; exact h12⟩, m4, fun i hi => ?_, ?_⟩, wX, wY, fun T s Z hZ => put_L hZ, fun T s Z hZ => (((hZ.ys (by omega)).ys (by omega)).ys (by omega)).ys (by omega)⟩
  · rcases Nat.lt_or_ge i n with q | q
    · obtain ⟨q1, q2, q3⟩ := put_f (X := X) (m := n) (w := 15 + l) (a := a) (b := b) i (by omega)
      rw [q1, q2, q3, r4 _ (by omega), r4 _ (by omega), r4 _ (by omega)]
      exact h14 i q
    · have : i = n := by omega
      subst this
      rw [m1, m2, m3, a0, a1, a2]
      exact ⟨rfl, rfl, Or.inl ⟨l, hl, rfl, rfl, h3', h4', h5'⟩⟩
  · rw [rDp, a0, rDp_congr (R := Y.1 4) n r4, h15]
    simp only [pb_bs]
    have n20 : ¬ nI l = (20 : Int32) := fun q => by have := (nI_eq (a := l) (b := 20) (by omega) (by omega)).mp q; omega
    have n21 : ¬ (nI l = (21 : Int32) ∨ nI l = (22 : Int32)) := fun q => by
      rcases q with q | q
      · have := (nI_eq (a := l) (b := 21) (by omega) (by omega)).mp q; omega
      · have := (nI_eq (a := l) (b := 22) (by omega) (by omega)).mp q; omega
    rw [if_neg n20, if_neg n21, cB]
/-- one more of the ones, and its first token taken -/
theorem SR.one {T : TX} {P N s n t ones d : Nat} {σ : List Nat} {wh : Bool} {X Y : MM} (h : SR T P N s n t ones d σ [] wh X Y) (hs0 : X.1 4 s ≠ 0) (hs1 : X.1 4 s ≠ 1) (ho : ones < 20) : ∃ X' Y', fX7_advance (mx_si X 134 4 (nI (ones + 1))) = some X' ∧ fX13_next (mx_si Y 0 44 (nI (ones + 1))) = some Y' ∧ SR T P N (s + 1) n t (ones + 1) d σ [] wh X' Y' ∧ WX X X' ∧ WY Y Y' := by
  obtain ⟨h1, h2, ⟨h3, h4, h5⟩, ⟨h6, h7⟩, ⟨h8, h9, h10⟩, ⟨h11, h11', h12⟩, h13, h14, h15⟩ := h
  obtain ⟨a1, Y', a2, a3, a4⟩ := ((h1.xs (k := 134) (j := 4) (v := nI (ones + 1)) (by omega)).ys (k := 0) (j := 44) (v := nI (ones + 1)) (by omega)).adv (by rw [si_nk (by omega)]; exact hs0) (by rw [si_nk (by omega)]; exact hs1)
  have s0 : SR0 P N n t (ones + 1) d σ [] wh (mx_si X 134 4 (nI (ones + 1))) (mx_si Y 0 44 (nI (ones + 1))) := by
    refine ⟨h2.w (WX.rf.si (by omega)) (WY.rf.si (by omega)), ⟨si_eq, si_eq, by omega⟩, ⟨by rw [si_nj (by omega)]; exact h6, by omega⟩, ⟨stR.fr _ (fun i _ => by rw [si_nk (by omega)]) h8, by rw [si_nj (by omega)]; exact h9, h10⟩, ⟨by rw [si_nj (by omega)]; exact h11, h11', by rw [si_nj (by omega)]; exact h12⟩, pdR.fr _ _ (si_nj (by omega)) (fun _ => rfl) (fun i => si_nk (by omega)) (fun i => si_nk (by omega)) h13, fun i hi => ?_, by rw [si_row (by omega)]; exact h15⟩
    rw [si_nk (by omega), si_nk (by omega), si_nk (by omega), si_nk (by omega), si_nk (by omega)]
    exact h14 i hi
  exact ⟨_, Y', a1, a2, (s0.n (nX.rf.si (by omega)) a3.y).up a4, (WX.rf.si (by omega)).si (by omega), (WY.rf.si (by omega)).tr a3.y.w⟩
/-- the reference's flag -/
theorem SR.flag {T : TX} {P N s n t ones d : Nat} {σ π : List Nat} {wh w2 : Bool} {X Y : MM} (h : SR T P N s n t ones d σ π wh X Y) : SR T P N s n t ones d σ π w2 X (mx_si Y 0 47 (mx_b w2)) := by
  obtain ⟨h1, h2, ⟨h3, h4, h5⟩, ⟨h6, h7⟩, ⟨h8, h9, h10⟩, ⟨h11, h11', h12⟩, h13, h14, h15⟩ := h
  refine ⟨h1.ys (by omega), h2.w WX.rf (WY.rf.si (by omega)), ⟨h3, by rw [si_nj (by omega)]; exact h4, h5⟩, ⟨by rw [si_nj (by omega)]; exact h6, h7⟩, ⟨stR.fr _ (fun i _ => by rw [si_nk (by omega)]) h8, by rw [si_nj (by omega)]; exact h9, h10⟩, ⟨by rw [si_nj (by omega)]; exact h11, h11', si_eq⟩, h13, fun i hi => ?_, by rw [si_row (by omega)]; exact h15⟩
  rw [si_nk (by omega), si_nk (by omega), si_nk (by omega)]
  exact h14 i hi
/-- .. and its stack, with one more on it -/
theorem SR.push {T : TX} {P N s n t ones d d2 o : Nat} {σ : List Nat} {wh : Bool} {X Y Y' : MM} (h : SR T P N s n t ones d σ [] wh X Y) (hl : σ.length < 45) (ho : o < 100) (hd : d2 ≤ 100) (hL : LX T s X Y') (hW : WY Y Y') (y17 : ∀ i, i ≠ σ.length → Y'.1 17 i = Y.1 17 i) (y17o : Y'.1 17 σ.length = nI o) (y45 : Y'.1 0 45 = nI (σ.length + 1)) (y46 : Y'.1 0 46 = nI d2) (y43 : Y'.1 0 43 = Y.1 0 43) (y44 : Y'.1 0 44 = Y.1 0 44) {w2 : Bool} (y47 : Y'.1 0 47 = mx_b w2) (y4 : Y'.1 4 = Y.1 4) : SR T P N s n t ones d2 (o :: σ) [] w2 X Y' := by
  obtain ⟨h1, h2, ⟨h3, h4, h5⟩, ⟨h6, h7⟩, ⟨h8, h9, h10⟩, ⟨h11, h11', h12⟩, h13, h14, h15⟩ := h
  rw [List.nil_append] at h8 h9 h10
  refine ⟨hL, h2.w WX.rf hW, ⟨h3, y44.trans h4, h5⟩, ⟨y43.trans h6, h7⟩, ⟨⟨⟨y17o, ho⟩, stR.fr _ (fun i hi => y17 i (by omega)) h8⟩, by rw [List.nil_append, List.length_cons]; exact y45, by rw [List.nil_append, List.length_cons]; omega⟩, ⟨y46, hd, y47⟩, h13, fun i hi => by rw [y4]; exact h14 i hi, by rw [y4]; exact h15⟩
