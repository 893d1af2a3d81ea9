/-! tours: the calls -/
theorem m_19 {P N p : Nat} {Y : MM} {S : Nat → Int32} (hS : Y.1 2 = S) (hL : wLd S P N) (hp : p < P) : ∀ c r f m, r + c = N → c < f → m < 2 ^ P → fX13_tour_19 (nI p) f (nI m) (nI r) Y = fX13_tour_80 (nI p) (nI (otS S p c r m)) mx_fu 0 0 Y := by
  have hP := hL.2.1
  have hN := hL.2.2.2.1
  have h128 : 2 ^ P ≤ 2 ^ 7 := Nat.pow_le_pow_right (by omega) hP
  intro c
  induction c with
  | zero =>
    intro r f m hr hf _
    obtain ⟨f, rfl⟩ : ∃ z, f = z + 1 := ⟨f - 1, by omega⟩
    rw [fX13_tour_19, hS, hL.2.2.1, if_pos (nI_le (by omega) (by omega))]
    rfl
  | succ c ih =>
    intro r f m hr hf hm
    obtain ⟨f, rfl⟩ : ∃ z, f = z + 1 := ⟨f - 1, by omega⟩
    obtain ⟨e1, e2⟩ := own_eq hL (show r < N by omega)
    obtain ⟨o1, o2⟩ := bit_or m (by omega) (own S r) (by omega)
    rw [fX13_tour_19, hS, hL.2.2.1, if_neg (nI_ge (by omega) (by omega)), m_keeps (by omega), hS]
    simp only [pb_bs]
    rw [c33, nI_add, pb_gd (by omega) (by omega), pb_gd (by omega) (by omega), nI_clamp (by omega), e1, o1, nI_1, pb_or0, otS]
    unfold otB
    rw [e1]
    cases sKeeps S (nI p) r
    · rw [if_pos b_f]; exact ih (r + 1) f m (by omega) (by omega) hm
    · rw [if_neg b_t]
      by_cases e : nI (own S r) = nI p
      · rw [if_pos e, e]
        simp only [decide_true, Bool.not_true, Bool.and_false, Bool.false_eq_true, ↓reduceIte]
        exact ih (r + 1) f m (by omega) (by omega) hm
      · rw [if_neg e]
        simp only [e, decide_false, Bool.not_false, Bool.and_self, ↓reduceIte]
        exact ih (r + 1) f _ (by omega) (by omega) (Nat.or_lt_two_pow hm (Nat.pow_lt_pow_right (by omega) e2))
theorem rep_snoc {G : Nat → Int32} {d : List Nat} {k : Nat} (h : rep G d) : rep (upd G d.length (nI k)) (d ++ [k]) := by
  intro j x hx
  by_cases e : j = d.length
  · subst e
    rw [ix1] at hx
    cases hx
    rw [pk_us]
  · rw [pk_un e]
    apply h j x
    have hj : j < (d ++ [k]).length := (List.getElem?_eq_some_iff.mp hx).1
    simp at hj
    rw [List.getElem?_append_left (by omega)] at hx
    exact hx
theorem m_80 {P N t : Nat} {Y : MM} {S : Nat → Int32} {i1 : Int32} (hS : Y.1 2 = S) (hL : wLd S P N) (ht : t < 128) : ∀ c k f d G, k + c = P → c < f → (d ++ els t c k).length ≤ 7 → rep G d → ∃ G', fX13_tour_80 i1 (nI t) f (nI d.length) (nI k) (sR 9 Y G) = fX13_tour_128 i1 (nI (d ++ els t c k).length) mx_fu (nI 1000000) true (sR 9 Y G') ∧ rep G' (d ++ els t c k) := by
  have hP := hL.2.1
  intro c
  induction c with
  | zero =>
    intro k f d G hk hf hl h
    obtain ⟨f, rfl⟩ : ∃ z, f = z + 1 := ⟨f - 1, by omega⟩
    rw [els, List.append_nil]
    refine ⟨G, ?_, h⟩
    rw [fX13_tour_80, sR_n (by omega), hS, hL.1, if_pos (nI_le (by omega) (by omega)), c1000000]
  | succ c ih =>
    intro k f d G hk hf hl h
    obtain ⟨f, rfl⟩ : ∃ z, f = z + 1 := ⟨f - 1, by omega⟩
    rw [fX13_tour_80, sR_n (by omega), hS, hL.1, if_neg (nI_ge (by omega) (by omega)), m_bitOf ht (by omega)]
    simp only [pb_bs]
    rw [els] at hl ⊢
    rcases Bool.eq_false_or_eq_true (t.testBit k) with e | e
    · rw [e, if_pos rfl] at hl
      rw [e, if_neg b_t, if_pos rfl]
      have hl2 : d.length + (els t c (k + 1)).length + 1 ≤ 7 := by simp at hl; omega
      rw [pb_gd (by omega) (by omega), nI_clamp (by omega), sR_i, nI_1, nI_1]
      have x : d ++ k :: els t c (k + 1) = d ++ [k] ++ els t c (k + 1) := by simp
      have x2 : nI (d.length + 1) = nI (d ++ [k]).length := by simp
      rw [x, x2]
      exact ih (k + 1) f (d ++ [k]) _ (by omega) (by omega) (by rw [← x]; simp; omega) (rep_snoc h)
    · rw [e] at hl ⊢
      simp only [Bool.false_eq_true, ↓reduceIte] at hl ⊢
      rw [if_pos b_f, nI_1]
      exact ih (k + 1) f d G (by omega) (by omega) hl h
theorem fac_le : ∀ n, n < 8 → fac n ≤ 5040 := by decide
theorem m_tour {P N p : Nat} {Y : MM} {S : Nat → Int32} (hS : Y.1 2 = S) (hL : wLd S P N) (hW : wSt S P N) (hp : p < P) : ∃ G H, fX13_tour_19 (nI p) mx_fu 0 0 Y = some (nI (Dt S P (popc (otS S p N 0 0)) (otS S p N 0 0) p), mx_si (sR 9 (sR 10 Y H) G) 0 26 (nI (popc (otS S p N 0 0)))) ∧ rep H (Rt S P (popc (otS S p N 0 0)) (otS S p N 0 0) p) := by
  have hP := hL.2.1
  have h128 : 2 ^ P ≤ 2 ^ 7 := Nat.pow_le_pow_right (by omega) hP
  have ht := otS_lt (p := p) hL N 0 0 (by omega) (Nat.two_pow_pos P)
  have h19 := m_19 (p := p) hS hL hp N 0 mx_fu 0 (by omega) (by have := hL.2.2.2.1; unfold mx_fu; omega) (Nat.two_pow_pos P)
  rw [nI_0] at h19
  generalize otS S p N 0 0 = t at ht h19
  have hlen := els_len P (by omega) t (by omega) ht
  have hp7 := bit_pop t (by omega)
  obtain ⟨G, a1, a2⟩ := m_80 (t := t) (i1 := nI p) hS hL (by omega) P 0 mx_fu [] (Y.1 9) (by omega) (by unfold mx_fu; omega) (by rw [List.nil_append]; omega) (fun j x hx => by simp at hx)
  rw [sR_self, List.length_nil, nI_0] at a1
  obtain ⟨f, hf⟩ : ∃ f, mx_fu = (f + 1) + fac (popc t) := ⟨mx_fu - fac (popc t) - 1, by have := fac_le (popc t) (by omega); unfold mx_fu; omega⟩
  obtain ⟨G', H', b1, b2, b3⟩ := m_run (Y := Y) (q0 := p) hS hP hW hp (popc t) t [] (f + 1) G (Y.1 10) (1000000, []) rfl ht (by rw [List.nil_append]; omega) (fun z hz => by cases hz) (Nat.le_refl _) a2 (fun j x hx => by simp at hx)
  rw [sR_self, ← hf] at b1
  have hD := Dt_le hP hW (popc t) t p hp ht rfl
  have hv : VP S P (popc t) [] (lastOf p []) (pcost S p []) t (1000000, []) = (Dt S P (popc t) t p, Rt S P (popc t) t p) := by
    rw [VP_D (popc t) [] (lastOf p []) (pcost S p []) t (1000000, []) (Nat.le_refl _)]
    show (if 0 + Dt S P (popc t) t p < 1000000 then (0 + Dt S P (popc t) t p, [] ++ Rt S P (popc t) t p) else _) = _
    rw [Nat.zero_add, List.nil_append, if_pos (by omega)]
  rw [hv] at b1 b3
  have hlr : ([] ++ els t P 0).length = ([] ++ (els t P 0).reverse).length := by simp
  have hrl := reo_last (Y := sR 10 Y H') (G := G') (T := [] ++ (els t P 0).reverse) (by rw [← hlr, List.nil_append]; omega) (by
    rw [List.nil_append, List.pairwise_reverse]; exact els_pw P 0) (fun z hz => by
    simp at hz
    have := els_mem P 0 z hz
    omega) b2
  rw [← hlr] at hrl
  rw [hrl] at b1
  simp only [pb_bs] at b1
  rw [fX13_tour_128, if_pos b_f, List.nil_append, hlen] at b1
  refine ⟨G', H', ?_, b3⟩
  rw [h19, a1, List.nil_append, hlen]
  exact b1
/-- plans alone changed -/
theorem Inv.plan {X X' Y Y' : MM} {P N : Nat} (h : Inv X Y P N) (h1 : ∀ k, (k < 143 ∨ 148 < k) → X'.1 k = X.1 k) (h2 : X'.2 = X.2) (y1 : ∀ a, a ≠ 0 → (a < 9 ∨ 12 < a) → Y'.1 a = Y.1 a) (y2 : ∀ j, j ≠ 0 → j ≠ 26 → j ≠ 29 → Y'.1 0 j = Y.1 0 j) (y3 : Y'.2 = Y.2) (pl : rPl X' Y') : Inv X' Y' P N := by
  have hP := h.p7
  have hN := h.n7
  have e2 : Y'.1 2 = Y.1 2 := y1 2 (by omega) (by omega)
  refine ⟨by rw [e2]; exact h.ld, by rw [e2]; exact h.st, ?_, ?_, ?_, ?_, ?_, ?_, ?_, ?_, pl, ?_, ?_, ?_, ?_⟩
  · rw [e2, ← rLo_9]; exact rLo_fr (fun k a b => h1 k (by omega)) hP hN (fun _ _ => rfl) h.rl
  · rw [e2]; exact rSt_fr (fun k a b => h1 k (by omega)) h.rs
  · exact rPast_fr (fun k a b => h1 k (by omega)) (by rw [h2]) (y1 7 (by omega) (by omega)) (y2 23 (by omega) (by omega) (by omega)) h.pa
  · exact rNm_fr (by rw [h2]) (by rw [h2]) hP hN (fun i _ => by rw [y3]) h.nm
  · rw [e2]; exact rSy_fr (h1 _ (by omega)) (by rw [h2]) (h1 _ (by omega)) (h1 _ (by omega)) (fun _ _ => rfl) h.sy
  · exact rTp_fr (h1 _ (by omega)) (h1 _ (by omega)) (y2 2 (by omega) (by omega) (by omega)) (y1 1 (by omega) (by omega)) h.tp
  · rw [h1 0 (by omega), y2 15 (by omega) (by omega) (by omega)]; exact h.ft
  · exact rIm_fr (fun j hj => h1 j (by omega)) (fun j hj => by rw [h2]) (fun j hj => by rw [h2]) (y1 19 (by omega) (by omega)) (by rw [y3]) (y1 21 (by omega) (by omega)) h.im
  · exact rFi_fr (h1 _ (by omega)) (y2 32 (by omega) (by omega) (by omega)) (y2 30 (by omega) (by omega) (by omega)) (y2 31 (by omega) (by omega) (by omega)) h.fi
  · exact rNt_fr (h1 _ (by omega)) (h1 _ (by omega)) (y2 37 (by omega) (by omega) (by omega)) (y1 15 (by omega) (by omega)) h.nt
  · exact rBk_fr (fun j _ => by rw [h1 138 (by omega)]) (y2 41 (by omega) (by omega) (by omega)) (y1 16 (by omega) (by omega)) h.bk
  · obtain ⟨a, b, c⟩ := h.rf
    exact ⟨fun k hk => by rw [h2]; exact a k hk, fun i hi => by rw [h2]; exact b i hi, fun k hk => by rw [y3]; exact c k hk⟩
theorem q_tour {X Y : MM} {P N : Nat} {i : Int32} (h : Inv X Y P N) : RW (fX12_tour i X) (fX13_tour i Y) := by
  have hP := h.p7
  have h128 : 2 ^ P ≤ 2 ^ 7 := Nat.pow_le_pow_right (by omega) hP
  rw [fX12_tour, fX13_tour, x_isPerson h.x0 h.p7, m_isPerson (th2.trans h.y0) h.p7]
  simp only [pb_bs]
  rcases in_cases i P (by omega) with hr | ⟨p, hp, rfl⟩
  · rw [hr, if_pos b_f, if_pos b_f]; exact ⟨_, _, _, rfl, rfl, P, N, h.th⟩
  rw [pb_in hp (by omega), if_neg b_t, if_neg b_t]
  have ht := otS_lt (p := p) h.ld N 0 0 (by omega) (Nat.two_pow_pos P)
  obtain ⟨T, A, a1, a2⟩ := x_planTour h.ld h.st h.rl h.rs hp
  obtain ⟨G, H, b1, b2⟩ := m_tour (Y := mx_si Y 0 0 (0 : Int32)) (S := Y.1 2) (p := p) th2' h.ld h.st hp
  have hp7 := bit_pop _ (show otS (Y.1 2) p N 0 0 < 128 by omega)
  rw [a1, b1]
  simp only [pb_bs]
  refine ⟨_, _, _, rfl, rfl, P, N, h.plan (fun k hk => ?_) ?_ (fun a a0 ha => ?_) (fun j j0 j1 j2 => ?_) ?_ ?_⟩
  · rw [si_row (by omega), sR_n (by omega), sR_n (by omega)]
  · rfl
  · rw [si_row (by omega), sR_n (by omega), sR_n (by omega), si_row (by omega)]
  · rw [si_nj j1, sR_n (by omega), sR_n (by omega), si_nj j0]
  · rfl
  · obtain ⟨-, m, m1, m2, m3⟩ := h.pl
    refine ⟨⟨popc (otS (Y.1 2) p N 0 0), hp7, si_eq, Or.inl si_eq, fun k hk => ?_⟩, m, m1, ?_, fun r hr => ?_⟩
    · have hl := Rt_len (S := Y.1 2) (P := P) (popc (otS (Y.1 2) p N 0 0)) (otS (Y.1 2) p N 0 0) p
      have hx := List.getElem?_eq_getElem (show k < (Rt (Y.1 2) P (popc (otS (Y.1 2) p N 0 0)) (otS (Y.1 2) p N 0 0) p).length by omega)
      rw [si_nk (by omega), sR_c, a2 k _ hx, si_nk (by omega), sR_n (by omega), sR_c, b2 k _ hx]
    · rw [si_nj (by omega), sR_n (by omega), sR_n (by omega), si_nj (by omega)]; exact m2
    · rw [si_nk (by omega), sR_n (by omega), sR_n (by omega), si_nk (by omega), sR_n (by omega), sR_n (by omega), si_nk (by omega)]; exact m3 r hr
