/-! likely -/
theorem upd_upd {F : Nat → Int32} {j : Nat} {a b : Int32} : upd (upd F j a) j b = upd F j b := by
  funext t
  by_cases e : t = j
  · subst e; rw [pk_us, pk_us]
  · rw [pk_un e, pk_un e, pk_un e]
def wq (S : Nat → Int32) (r q t : Nat) : Int32 := if okF S r t q then 1 else 0
theorem rLd_sR2 {P N : Nat} {X : MM} {S F V : Nat → Int32} (hL : wLd S P N) (hX : rLd X S P N) : rLd (sR 151 (sR 150 X F) V) S P N := rLd_sR (by omega) hL (rLd_sR (by omega) hL hX)
theorem x_30 {P N r k p : Nat} {X : MM} {S F V : Nat → Int32} {k10 : Int32 → MM → Option MM} (hL : wLd S P N) (hX : rLd X S P N) (hr : r < N) (hp : p < P) (hk : k ≤ 7) : ∀ c s n acc, s + c = 128 → c < n → fX2_countVotes_30 (nI r) (nI k) k10 n (nI p) (nI s) (sR 151 (sR 150 X F) (upd V p acc)) = k10 (nI (p + 1)) (sR 151 (sR 150 X F) (upd V p (pfor (fun t a => a + F t * (if popc t = k then wq S r p t else 0)) s c acc))) := by
  have hP := hL.2.1
  intro c
  induction c with
  | zero =>
    intro s n acc hs hn
    obtain ⟨n, rfl⟩ : ∃ z, n = z + 1 := ⟨n - 1, by omega⟩
    rw [fX2_countVotes_30, c128, if_pos (nI_le (by omega) (by omega)), nI_1]
    rfl
  | succ c ih =>
    intro s n acc hs hn
    obtain ⟨n, rfl⟩ : ∃ z, n = z + 1 := ⟨n - 1, by omega⟩
    have hp7 := bit_pop s (by omega)
    rw [fX2_countVotes_30, c128, if_neg (nI_ge (by omega) (by omega)), x_bitCount (by omega), x_mayHave hL (rLd_sR2 hL hX) hr hp (by omega)]
    simp only [pb_bs]
    rw [pb_gd (by omega) (by omega), pb_gd (by omega) (by omega), pb_gd (by omega) (by omega), nI_clamp (by omega), nI_clamp (by omega), sR_c, sR_n (by omega), sR_c, sR_i, upd_upd, pk_us, nI_1, pfor]
    by_cases e : popc s = k
    · rw [if_pos (by rw [e]), if_pos e]
      unfold wq
      rcases Bool.eq_false_or_eq_true (okF S r s p) with e2 | e2
      · rw [e2, if_neg b_t, if_pos rfl, Int32.mul_one]
        exact ih (s + 1) n _ (by omega) (by omega)
      · rw [e2, if_pos b_f]
        simp only [Bool.false_eq_true, ↓reduceIte]
        rw [Int32.mul_zero, Int32.add_zero]
        exact ih (s + 1) n _ (by omega) (by omega)
    · rw [if_neg (fun x => e ((nI_eq (by omega) (by omega)).mp x)), if_neg e, Int32.mul_zero, Int32.add_zero]
      exact ih (s + 1) n _ (by omega) (by omega)
theorem x_10 {P N r k : Nat} {X : MM} {S F : Nat → Int32} (hL : wLd S P N) (hX : rLd X S P N) (hr : r < N) (hk : k ≤ 7) : ∀ c p n V, p + c = P → c < n → (∀ q, q < p → V q = wsum F k (wq S r q)) → ∃ V', fX2_countVotes_10 (nI r) (nI k) n (nI p) (sR 151 (sR 150 X F) V) = some (sR 151 (sR 150 X F) V') ∧ ∀ q, q < P → V' q = wsum F k (wq S r q) := by
  have hP := hL.2.1
  intro c
  induction c with
  | zero =>
    intro p n V hp hn h
    obtain ⟨n, rfl⟩ : ∃ z, n = z + 1 := ⟨n - 1, by omega⟩
    refine ⟨V, ?_, fun q hq => h q (by omega)⟩
    rw [fX2_countVotes_10, sR_n (by omega), sR_n (by omega), hX.1, hL.1, if_pos (nI_le (by omega) (by omega))]
  | succ c ih =>
    intro p n V hp hn h
    obtain ⟨n, rfl⟩ : ∃ z, n = z + 1 := ⟨n - 1, by omega⟩
    have h30 := x_30 (F := F) (V := V) (k10 := fX2_countVotes_10 (nI r) (nI k) n) hL hX hr (show p < P by omega) hk 128 0 mx_fu 0 (by omega) (by unfold mx_fu; omega)
    rw [nI_0] at h30
    rw [fX2_countVotes_10, sR_n (by omega), sR_n (by omega), hX.1, hL.1, if_neg (nI_ge (by omega) (by omega)), pb_gd (by omega) (by omega), nI_clamp (by omega), sR_i, h30]
    refine ih (p + 1) n _ (by omega) (by omega) (fun q hq => ?_)
    by_cases e : q = p
    · subst e; rw [pk_us]; rfl
    · rw [pk_un e]; exact h q (by omega)
theorem ne_r {l : Nat} (hl : l < 7) : ∀ r, r < 7 → (nI r = nI l ↔ r = l) := fun r hr => nI_eq (by omega) (by omega)
def vst (v : Nat → Int32) (p : Nat) (z : Int32 × Int32) : Int32 × Int32 := if v p ≤ z.2 then z else (nI p, v p)
theorem x_14 {P : Nat} {i2 : Int32} {M : MM} {v : Nat → Int32} (hP : P ≤ 7) (h0 : M.1 9 0 = nI P) (hv : ∀ q, q < P → M.1 151 q = v q) : ∀ c p n z, p + c = P → c < n → fX2_likeliest_14 i2 n z.1 z.2 (nI p) M = some ((pfor (vst v) p c z).1, M) := by
  intro c
  induction c with
  | zero =>
    intro p n z hp hn
    obtain ⟨n, rfl⟩ : ∃ z, n = z + 1 := ⟨n - 1, by omega⟩
    rw [fX2_likeliest_14, h0, if_pos (nI_le (by omega) (by omega))]
    rfl
  | succ c ih =>
    intro p n z hp hn
    obtain ⟨n, rfl⟩ : ∃ z, n = z + 1 := ⟨n - 1, by omega⟩
    rw [fX2_likeliest_14, h0, if_neg (nI_ge (by omega) (by omega)), pb_gd (by omega) (by omega), pb_gd (by omega) (by omega), nI_clamp (by omega), hv p (by omega), nI_1, pfor]
    unfold vst
    by_cases e : v p ≤ z.2
    · rw [if_pos e, if_pos e]; exact ih (p + 1) n z (by omega) (by omega)
    · rw [if_neg e, if_neg e]; exact ih (p + 1) n (nI p, v p) (by omega) (by omega)
theorem m_26 {P : Nat} {i1 : Int32} {M : MM} {v : Nat → Int32} (hP : P ≤ 7) (h0 : M.1 2 0 = nI P) (hv : ∀ q, q < P → fX13_waysBy i1 (nI q) M = some (v q)) : ∀ c p n z, p + c = P → c < n → fX13_likely_26 i1 n z.1 z.2 (nI p) M = some ((pfor (vst v) p c z).1, M) := by
  intro c
  induction c with
  | zero =>
    intro p n z hp hn
    obtain ⟨n, rfl⟩ : ∃ z, n = z + 1 := ⟨n - 1, by omega⟩
    rw [fX13_likely_26, h0, if_pos (nI_le (by omega) (by omega))]
    rfl
  | succ c ih =>
    intro p n z hp hn
    obtain ⟨n, rfl⟩ : ∃ z, n = z + 1 := ⟨n - 1, by omega⟩
    rw [fX13_likely_26, h0, if_neg (nI_ge (by omega) (by omega)), hv p (by omega)]
    simp only [pb_bs]
    rw [nI_1, pfor]
    unfold vst
    by_cases e : v p ≤ z.2
    · rw [if_neg (Int32.not_lt.mpr e), if_pos e]; exact ih (p + 1) n z (by omega) (by omega)
    · rw [if_pos (Int32.not_le.mp e), if_neg e]; exact ih (p + 1) n (nI p, v p) (by omega) (by omega)
theorem m_waysBy {P N r q : Nat} {M : MM} {F G : Nat → Int32} (hr : r < 7) (hq : q < 7) (hF : M.1 13 = F) (hG : M.1 14 = G) : fX13_waysBy (nI r) (nI q) M = some (sm (fun t => F (128 * r + t) * (if okF (M.1 2) r t q then G (128 * (r + 1) + (t ||| 2 ^ q)) else 0)) 128) := by
  have key : ∀ c s n acc, s + c = 128 → c < n → fX13_waysBy_5 (nI r) (nI q) M n acc (nI s) = some (pfor (fun t a => a + F (128 * r + t) * (if okF (M.1 2) r t q then G (128 * (r + 1) + (t ||| 2 ^ q)) else 0)) s c acc) := by
    intro c
    induction c with
    | zero =>
      intro s n acc hs hn
      obtain ⟨n, rfl⟩ : ∃ z, n = z + 1 := ⟨n - 1, by omega⟩
      rw [fX13_waysBy_5, c128, if_pos (nI_le (by omega) (by omega))]
      rfl
    | succ c ih =>
      intro s n acc hs hn
      obtain ⟨n, rfl⟩ : ∃ z, n = z + 1 := ⟨n - 1, by omega⟩
      obtain ⟨o1, o2⟩ := bit_or s (by omega) q hq
      rw [fX13_waysBy_5, c128, if_neg (nI_ge (by omega) (by omega)), m_okF (P := P) (N := N) hr hq (by omega), o1, nI_1, nI_1, nI_mul, nI_mul, nI_add, nI_add, pb_gd (show 128 * r + s < 1024 by omega) (by omega), pb_gd (show 128 * (r + 1) + (s ||| 2 ^ q) < 1024 by omega) (by omega), nI_clamp (by omega), nI_clamp (by omega), hF, hG, pfor]
      cases okF (M.1 2) r s q
      · simp only [Bool.false_eq_true, ↓reduceIte]
        rw [Int32.mul_zero, Int32.add_zero]
        exact ih (s + 1) n _ (by omega) (by omega)
      · simp only [↓reduceIte]
        exact ih (s + 1) n _ (by omega) (by omega)
  have := key 128 0 mx_fu 0 (by omega) (by unfold mx_fu; omega)
  rw [nI_0] at this
  rw [fX13_waysBy, this]
  rfl
theorem rg_hi {l : Nat} : ∀ c a, a + c ≤ 7 → l < a → rg l c a = rg 7 c a := by
  intro c
  induction c with
  | zero => intro a _ _; rfl
  | succ c ih => intro a h1 h2; rw [rg, rg, if_neg (by omega), if_neg (by omega), ih (a + 1) (by omega) (by omega)]
theorem rg_split {l : Nat} : ∀ c a, a + c ≤ 7 → a ≤ l → l < a + c → rg l c a = rg 7 (l - a) a ++ rg 7 (a + c - (l + 1)) (l + 1) := by
  intro c
  induction c with
  | zero => intro a _ _ _; omega
  | succ c ih =>
    intro a h1 h2 h3
    rw [rg]
    by_cases e : a = l
    · subst e
      rw [if_pos rfl, rg_hi c (a + 1) (by omega) (by omega), Nat.sub_self, show a + (c + 1) - (a + 1) = c by omega]
      rfl
    · rw [if_neg e, ih (a + 1) (by omega) (by omega) (by omega), show l - a = (l - (a + 1)) + 1 by omega, rg, if_neg (by omega), show a + (c + 1) - (l + 1) = a + 1 + c - (l + 1) by omega]
      rfl
theorem opBs_zero {S : Nat → Int32} {P : Nat} : ∀ L, opBs S P L (fun _ => 0) = fun _ => 0 := by
  intro L
  induction L with
  | nil => rfl
  | cons r L ih =>
    funext s
    show opB S P r (opBs S P L fun _ => 0) s = 0
    rw [ih]
    unfold opB
    have key : ∀ c k, pfor (bst1 S r (fun _ => 0) s) k c 0 = 0 := by
      intro c
      induction c with
      | zero => intro k; rfl
      | succ c ih =>
        intro k
        rw [pfor]
        have : bst1 S r (fun _ => 0) s k 0 = 0 := by unfold bst1; split <;> rfl
        rw [this]; exact ih (k + 1)
    exact key P 0
/-- both count the same -/
theorem votes_eq {S F G : Nat → Int32} {P N r q : Nat} (hP : P ≤ 7) (hN : N ≤ 7) (hr : r < N) (hq : q < P) (hF : tabA S P N F) (hG : tabO S P N 0 G) : sm (fun t => F (128 * r + t) * (if okF S r t q then G (128 * (r + 1) + (t ||| 2 ^ q)) else 0)) 128 = opBs S P (rg r N 0) (wq S r q) 0 := by
  have h1 := hF.1 r (by omega) (fun t => if okF S r t q then G (128 * (r + 1) + (t ||| 2 ^ q)) else 0)
  unfold rsum at h1
  rw [h1, rg_split N 0 (by omega) (by omega) (by omega), opBs_app, Nat.sub_zero, Nat.zero_add]
  refine opBs_congr hP (fun t ht => ?_) _ 0 (by omega)
  have hg := fun t ht => hG.1 (r + 1) (by omega) (by omega) t ht
  rcases Bool.eq_false_or_eq_true (sFit S r q) with e | e
  · have ew : wq S r q = opC q (fun _ => 1) := by
      funext u
      unfold wq okF opC
      rw [e]
      cases u.testBit q <;> rfl
    rw [ew, ← opC_Bs]
    unfold opC okF
    rw [e]
    cases hb : t.testBit q
    · simp only [Bool.not_false, Bool.and_self, ↓reduceIte, Bool.false_eq_true]
      exact hg _ (bit_or t ht q (by omega)).2
    · rfl
  · have ew : wq S r q = fun _ => 0 := by
      funext u
      unfold wq okF
      rw [e]
      simp
    rw [ew, opBs_zero]
    unfold okF
    rw [e]
    simp
theorem pfor_vst {v v' : Nat → Int32} {P : Nat} (h : ∀ q, q < P → v q = v' q) (z : Int32 × Int32) : pfor (vst v) 0 P z = pfor (vst v') 0 P z := by
  refine pfor_congr P 0 z (fun j s _ hj => ?_)
  unfold vst
  rw [h j (by omega)]
theorem q_likely {X Y : MM} {P N : Nat} {i : Int32} (h : Inv X Y P N) : RW (fX12_likely i X) (fX13_likely i Y) := by
  have hP := h.p7
  have hN := h.n7
  rw [fX12_likely, fX13_likely, x_isRing h.x1 h.n7, m_isRing (th2.trans h.y1) h.n7]
  simp only [pb_bs]
  rcases in_cases i N (by omega) with hr | ⟨r, hr, rfl⟩
  · rw [hr, if_pos b_f, if_pos b_f]; exact ⟨_, _, _, rfl, rfl, P, N, h.th⟩
  rw [pb_in hr (by omega), if_neg b_t, if_neg b_t]
  obtain ⟨F0, a1, a2⟩ := x_given (X := X) (l := r) h.ld h.rl (ne_r (by omega))
  have hk := rg_len r N 0
  obtain ⟨V, b1, b2⟩ := x_10 (F := F0) (k := (rg r N 0).length) h.ld h.rl hr (by omega) P 0 mx_fu ((sR 150 X F0).1 151) (by omega) (by unfold mx_fu; omega) (fun q hq => by omega)
  rw [sR_self, nI_0] at b1
  obtain ⟨F, G, d1, d2, d3⟩ := m_lays (Y := mx_si Y 0 0 (0 : Int32)) (by rw [th2']; exact h.ld)
  rw [th2'] at d2 d3
  have ev : ∀ q, q < P → V q = opBs (Y.1 2) P (rg r N 0) (wq (Y.1 2) r q) 0 := fun q hq => by rw [b2 q hq, a2]
  have ex := x_14 (i2 := nI r) (M := sR 151 (sR 150 X F0) V) (v := V) hP (by rw [sR_n (by omega), sR_n (by omega)]; exact h.x0) (fun q _ => by rw [sR_c]) P 0 mx_fu ((-1 : Int32), (0 : Int32)) (by omega) (by unfold mx_fu; omega)
  have s2 : (sR 14 (sR 13 (mx_si Y 0 0 (0 : Int32)) F) G).1 2 = Y.1 2 := by rw [sR_n (by omega), sR_n (by omega), th2']
  have ey := m_26 (i1 := nI r) (M := sR 14 (sR 13 (mx_si Y 0 0 (0 : Int32)) F) G) (v := V) hP (by rw [s2]; exact h.y0) (fun q hq => by
    rw [m_waysBy (P := P) (N := N) (F := F) (G := G) (by omega) (by omega) (by rw [sR_n (by omega), sR_c]) sR_c, s2, votes_eq hP hN hr hq d2 d3, ev q hq]) P 0 mx_fu ((-1 : Int32), (0 : Int32)) (by omega) (by unfold mx_fu; omega)
  rw [nI_0] at ex ey
  rw [fX2_likeliest, fX2_countVotes, a1]
  simp only [pb_bs]
  rw [b1]
  simp only [pb_bs]
  rw [ex, d1]
  simp only [pb_bs]
  rw [ey]
  refine ⟨_, _, _, rfl, rfl, P, N, Inv.kp (X := X) (Y := Y) ?_ ?_ s2 h⟩
  · have fx : ∀ k, k ≠ 150 → k ≠ 151 → (sR 151 (sR 150 X F0) V).1 k = X.1 k := fun k k1 k2 => by rw [sR_n k2, sR_n k1]
    exact ⟨by rw [fx 0 (by omega) (by omega)], fun k hk => fx k (by omega) (by omega), by rw [fx 143 (by omega) (by omega)], fun j _ => by rw [fx 138 (by omega) (by omega)], fun _ _ => rfl, fun _ _ => rfl, fun hw i hi => hw i hi⟩
  · have fy : ∀ k, k ≠ 0 → k ≠ 13 → k ≠ 14 → (sR 14 (sR 13 (mx_si Y 0 0 (0 : Int32)) F) G).1 k = Y.1 k := fun k k0 k1 k2 => by rw [sR_n k2, sR_n k1, si_row k0]
    exact ⟨fy 1 (by omega) (by omega) (by omega), fy 7 (by omega) (by omega) (by omega), fy 10 (by omega) (by omega) (by omega), fy 12 (by omega) (by omega) (by omega), fy 15 (by omega) (by omega) (by omega), fy 16 (by omega) (by omega) (by omega), fy 19 (by omega) (by omega) (by omega), fy 21 (by omega) (by omega) (by omega), fun j hj => by rw [sR_n (by omega), sR_n (by omega), si_nj (by omega)], fun _ _ => rfl, rfl, rfl⟩
