/-! what stays so: the state's ranges -/
theorem nI_val (x : Int32) : nI x.toBitVec.toNat = x := by
  apply Int32.toBitVec_inj.mp
  show BitVec.ofNat 32 x.toBitVec.toNat = x.toBitVec
  simp
theorem wSt_same {S S' : Nat → Int32} {P N : Nat} (h : ∀ i, 54 ≤ i → i < 113 → S' i = S i) (hP : P ≤ 7) (hN : N ≤ 7) (hW : wSt S P N) : wSt S' P N := by
  obtain ⟨w1, w2, w3⟩ := hW
  refine ⟨by rw [h 54 (by omega) (by omega)]; exact w1, fun p hp => ?_, fun r hr => ?_⟩
  · rw [h (57 + p) (by omega) (by omega), h (64 + p) (by omega) (by omega), h (71 + p) (by omega) (by omega)]
    exact w2 p hp
  · rw [h (78 + r) (by omega) (by omega), h (85 + r) (by omega) (by omega), h (99 + r) (by omega) (by omega), h (106 + r) (by omega) (by omega)]
    exact w3 r hr
theorem wSt_go {S : Nat → Int32} {P N q a b : Nat} (hP : P ≤ 7) (hN : N ≤ 7) (hW : wSt S P N) (hq : q < P) (ha : a ≤ 20) (hb : b ≤ 20) (hw : sWhyGo S q (nI a) (nI b) = 0) : wSt (sGo S q (nI a) (nI b)) P N := by
  obtain ⟨d, hd, ed⟩ := sFar_nI hW hq ha hb
  obtain ⟨w1, w2, w3⟩ := hW
  obtain ⟨-, -, ⟨st, hst, est⟩⟩ := w2 q hq
  have hle : d ≤ st := by
    rw [sWhyGo, ed, est] at hw
    split at hw
    · cases hw
    · split at hw
      · rename_i h
        rw [pb_le (by omega) (by omega)] at h
        exact h
      · cases hw
  refine ⟨?_, fun p hp => ?_, fun r hr => ?_⟩
  · simp (disch := omega) only [sGo, pk_un]; exact w1
  · by_cases hpq : p = q
    · subst hpq
      simp (disch := omega) only [sGo, pk_un, pk_us]
      exact ⟨⟨a, ha, rfl⟩, ⟨b, hb, rfl⟩, ⟨st - d, by omega, by rw [ed, est, pk_sub hle]⟩⟩
    · simp (disch := omega) only [sGo, pk_un]
      exact w2 p hp
  · simp (disch := omega) only [sGo, pk_un]; exact w3 r hr
theorem wSt_hand {S : Nat → Int32} {P N r t : Nat} (hP : P ≤ 7) (hN : N ≤ 7) (hW : wSt S P N) (ht : t < P) (hr : r < N) : wSt (sHand S r t) P N := by
  obtain ⟨w1, w2, w3⟩ := hW
  refine ⟨?_, fun p hp => ?_, fun j hj => ?_⟩
  · simp (disch := omega) only [sHand, pk_un]; exact w1
  · simp (disch := omega) only [sHand, pk_un]; exact w2 p hp
  · obtain ⟨i1, i2, i3⟩ := w3 j hj
    by_cases hjr : j = r
    · subst hjr
      simp (disch := omega) only [sHand, pk_un, pk_us]
      exact ⟨⟨t, ht, rfl⟩, i2, i3⟩
    · simp (disch := omega) only [sHand, pk_un]
      exact ⟨i1, i2, i3⟩
theorem wSt_how {S : Nat → Int32} {P N r : Nat} {v : Int32} (hP : P ≤ 7) (hN : N ≤ 7) (hW : wSt S P N) (hr : r < N) (hv : v = 0 ∨ v = 1 ∨ v = 2) : wSt (upd S (85 + r) v) P N := by
  obtain ⟨w1, w2, w3⟩ := hW
  refine ⟨?_, fun p hp => ?_, fun j hj => ?_⟩
  · simp (disch := omega) only [pk_un]; exact w1
  · simp (disch := omega) only [pk_un]; exact w2 p hp
  · obtain ⟨i1, i2, i3⟩ := w3 j hj
    by_cases hjr : j = r
    · subst hjr
      simp (disch := omega) only [pk_un, pk_us]
      exact ⟨i1, hv, i3⟩
    · simp (disch := omega) only [pk_un]
      exact ⟨i1, i2, i3⟩
theorem wSt_find {S : Nat → Int32} {P N q r : Nat} (hP : P ≤ 7) (hN : N ≤ 7) (hW : wSt S P N) (hq : q < P) (hr : r < N) : wSt (sFind S q r) P N := by
  obtain ⟨w1, w2, w3⟩ := hW
  refine ⟨?_, fun p hp => ?_, fun j hj => ?_⟩
  · simp (disch := omega) only [sFind, pk_un]; exact w1
  · simp (disch := omega) only [sFind, pk_un]; exact w2 p hp
  · obtain ⟨i1, i2, i3⟩ := w3 j hj
    by_cases hjr : j = r
    · subst hjr
      simp (disch := omega) only [sFind, pk_un, pk_us]
      exact ⟨⟨q, hq, rfl⟩, Or.inl trivial, ⟨0, by omega, rfl⟩, ⟨0, by omega, rfl⟩⟩
    · simp (disch := omega) only [sFind, pk_un]
      exact ⟨i1, i2, i3⟩
theorem wSt_lose {S : Nat → Int32} {P N q r : Nat} (hP : P ≤ 7) (hN : N ≤ 7) (hW : wSt S P N) (hq : q < P) (hr : r < N) : wSt (sLose S q r) P N := by
  obtain ⟨w1, w2, w3⟩ := hW
  obtain ⟨hx, hy, -⟩ := w2 q hq
  refine ⟨?_, fun p hp => ?_, fun j hj => ?_⟩
  · simp (disch := omega) only [sLose, pk_un]; exact w1
  · simp (disch := omega) only [sLose, pk_un]; exact w2 p hp
  · obtain ⟨i1, i2, i3⟩ := w3 j hj
    by_cases hjr : j = r
    · subst hjr
      simp (disch := omega) only [sLose, pk_un, pk_us]
      exact ⟨⟨0, by omega, rfl⟩, Or.inr (Or.inr trivial), hx, hy⟩
    · simp (disch := omega) only [sLose, pk_un]
      exact ⟨i1, i2, i3⟩
theorem wSt_step {S : Nat → Int32} {P N q w : Nat} (hP : P ≤ 7) (hN : N ≤ 7) (hW : wSt S P N) (hq : q < 7) (hw : w ≤ 20) : wSt (upd S (71 + q) (nI w)) P N := by
  obtain ⟨w1, w2, w3⟩ := hW
  refine ⟨?_, fun p hp => ?_, fun j hj => ?_⟩
  · simp (disch := omega) only [pk_un]; exact w1
  · obtain ⟨i1, i2, i3⟩ := w2 p hp
    by_cases hpq : p = q
    · subst hpq
      simp (disch := omega) only [pk_un, pk_us]
      exact ⟨i1, i2, ⟨w, hw, rfl⟩⟩
    · simp (disch := omega) only [pk_un]
      exact ⟨i1, i2, i3⟩
  · simp (disch := omega) only [pk_un]; exact w3 j hj
theorem pfor_inv {σ : Type} {f : Nat → σ → σ} (I : σ → Prop) : ∀ (c k : Nat) (s : σ), (∀ j s, k ≤ j → j < k + c → I s → I (f j s)) → I s → I (pfor f k c s) := by
  intro c
  induction c with
  | zero => intro k s _ h; exact h
  | succ c ih => intro k s hf h; exact ih (k + 1) _ (fun j s h1 h2 => hf j s (by omega) (by omega)) (hf k s (by omega) (by omega) h)
theorem wSt_day {S : Nat → Int32} {P N d : Nat} (hL : wLd S P N) (hW : wSt S P N) (hd : S 54 = nI d) (hd4 : d < 400) : wSt (sDay S P N) P N := by
  obtain ⟨e0, hP, e1, hN, -, ⟨w, hw1, hw2, ew⟩, ⟨jj, hj1, hj2, ej⟩, -, -⟩ := id hL
  have h1 : wSt (pfor sDue 0 N S) P N ∧ sameL S (pfor sDue 0 N S) ∧ pfor sDue 0 N S 54 = nI d := by
    refine pfor_inv (fun S' => wSt S' P N ∧ sameL S S' ∧ S' 54 = nI d) N 0 S (fun j S' _ hj ⟨a, b, c⟩ => ?_) ⟨hW, sameL.rf, hd⟩
    unfold sDue
    split
    · refine ⟨?_, b.up (by omega), by rw [pk_un (by omega)]; exact c⟩
      obtain ⟨w1, w2, w3⟩ := a
      refine ⟨?_, fun p hp => ?_, fun r hr => ?_⟩
      · simp (disch := omega) only [pk_un]; exact w1
      · simp (disch := omega) only [pk_un]; exact w2 p hp
      · simp (disch := omega) only [pk_un]; exact w3 r hr
    · exact ⟨a, b, c⟩
  have h2 : wSt (pfor (sDrain N) 0 P (pfor sDue 0 N S)) P N ∧ sameL S (pfor (sDrain N) 0 P (pfor sDue 0 N S)) ∧ pfor (sDrain N) 0 P (pfor sDue 0 N S) 54 = nI d := by
    refine pfor_inv (fun S' => wSt S' P N ∧ sameL S S' ∧ S' 54 = nI d) P 0 _ (fun j S' _ hj ⟨a, b, c⟩ => ?_) h1
    have e3 : S' 3 = nI w := by rw [b 3 (by omega)]; exact ew
    have hs := wSt_step (q := j) (w := w) hP hN a (by omega) hw2
    unfold sDrain
    rw [e3]
    split
    · rename_i hc
      refine ⟨?_, sLose_L (b.up (by omega)), by simp (disch := omega) only [sLose, pk_un]; exact c⟩
      obtain ⟨g1, g2, g3⟩ := pbN_spec (f := sKeeps S' (nI j)) hN
      have hpop := bit_pop _ g1
      rw [b 4 (by omega), ej, pb_le (by omega) (by omega)] at hc
      obtain ⟨r, hr, ht⟩ := bit_one _ g1 (by omega)
      rw [g3 r] at ht
      simp at ht
      exact wSt_lose hP hN hs (by omega) (pgr_lt N ⟨r, ht.1, ht.2⟩).1
    · exact ⟨hs, b.up (by omega), by rw [pk_un (by omega)]; exact c⟩
  obtain ⟨⟨w1, w2, w3⟩, -, hc⟩ := h2
  unfold sDay
  refine ⟨⟨d + 1, by omega, by rw [pk_us, hc, nI_1]⟩, fun p hp => ?_, fun r hr => ?_⟩
  · simp (disch := omega) only [pk_un]; exact w2 p hp
  · simp (disch := omega) only [pk_un]; exact w3 r hr
/-! days -/
def sGoesOn (P N : Nat) : Nat → (Nat → Int32) → Nat × (Nat → Int32)
  | 0, S => (0, S)
  | n + 1, S => if (400 : Int32) ≤ S 54 then (0, S) else ((sGoesOn P N n (sDay S P N)).1 + 1, (sGoesOn P N n (sDay S P N)).2)
theorem sGoesOn_L {P N : Nat} : ∀ (n : Nat) (S S0 : Nat → Int32), sameL S0 S → sameL S0 (sGoesOn P N n S).2 := by
  intro n
  induction n with
  | zero => intro S S0 h; exact h
  | succ n ih =>
    intro S S0 h
    rw [sGoesOn]
    split
    · exact h
    · exact ih _ _ (h.tr sDay_L)
theorem sGoesOn_W {P N : Nat} : ∀ (n : Nat) (S : Nat → Int32), wLd S P N → wSt S P N → wSt (sGoesOn P N n S).2 P N := by
  intro n
  induction n with
  | zero => intro S _ h; exact h
  | succ n ih =>
    intro S hL hW
    rw [sGoesOn]
    split
    · exact hW
    · rename_i h4
      obtain ⟨⟨d, hd, ed⟩, -⟩ := id hW
      rw [ed, c400, pb_le (by omega) (by omega)] at h4
      exact ih _ (wLd_same sDay_L hL) (wSt_day hL hW ed (by omega))
theorem m_goesOn {M : MM} {P N K : Nat} (hK : K ≤ 60) (hL : wLd (M.1 2) P N) : fX13_goesOn (nI K) M = some (nI (sGoesOn P N K (M.1 2)).1, sS M (sGoesOn P N K (M.1 2)).2) := by
  have key : ∀ (c k n : Nat) (S : Nat → Int32), k + c = K → c < n → sameL (M.1 2) S → fX13_goesOn_2 (nI K) n (nI k) (sS M S) = some (nI (k + (sGoesOn P N c S).1), sS M (sGoesOn P N c S).2) := by
    intro c
    induction c with
    | zero =>
      intro k n S hk hn hS
      obtain ⟨n, rfl⟩ : ∃ z, n = z + 1 := ⟨n - 1, by omega⟩
      rw [fX13_goesOn_2, if_pos (nI_le (by omega) (by omega))]
      rfl
    | succ c ih =>
      intro k n S hk hn hS
      obtain ⟨n, rfl⟩ : ∃ z, n = z + 1 := ⟨n - 1, by omega⟩
      rw [fX13_goesOn_2, if_neg (nI_ge (by omega) (by omega)), sS_2, sGoesOn]
      by_cases h4 : (400 : Int32) ≤ S 54
      · rw [if_pos h4, if_pos h4]
        rfl
      · rw [if_neg h4, if_neg h4, m_day (P := P) (N := N) (by rw [sS_2]; exact wLd_same hS hL), sS_2, sS_sS]
        simp only [pb_bs, nI_1]
        rw [ih (k + 1) n (sDay S P N) (by omega) (by omega) (hS.tr sDay_L), show k + 1 + (sGoesOn P N c (sDay S P N)).1 = k + ((sGoesOn P N c (sDay S P N)).1 + 1) by omega]
  have := key K 0 mx_fu (M.1 2) (by omega) (by unfold mx_fu; omega) sameL.rf
  rw [sS_self, Nat.zero_add] at this
  exact this
theorem x_passDays {o : Nat} {P N K : Nat} {X : MM} {S : Nat → Int32} (hK : K ≤ 60) (ho : 29 ≤ o) (hW : wLd S P N) (hL : rLd X S P N) (hR : rSt o X S P N) : ∃ X', fX9_passDays o (nI K) X = some (nI (sGoesOn P N K S).1, X') ∧ xFr o X X' ∧ X'.1 o 12 = X.1 o 12 ∧ rSt o X' (sGoesOn P N K S).2 P N := by
  have hP := hW.2.1
  have hN := hW.2.2.2.1
  have key : ∀ (c k n : Nat) (Y : MM) (T : Nat → Int32), k + c = K → c < n → sameL S T → xFr o X Y → rSt o Y T P N → ∃ X', fX9_passDays_2 o (nI K) n (nI k) Y = some (nI (k + (sGoesOn P N c T).1), X') ∧ xFr o X X' ∧ X'.1 o 12 = Y.1 o 12 ∧ rSt o X' (sGoesOn P N c T).2 P N := by
    intro c
    induction c with
    | zero =>
      intro k n Y T hk hn hS hf hY
      obtain ⟨n, rfl⟩ : ∃ z, n = z + 1 := ⟨n - 1, by omega⟩
      rw [fX9_passDays_2, if_pos (nI_le (by omega) (by omega))]
      exact ⟨Y, rfl, hf, rfl, hY⟩
    | succ c ih =>
      intro k n Y T hk hn hS hf hY
      obtain ⟨n, rfl⟩ : ∃ z, n = z + 1 := ⟨n - 1, by omega⟩
      rw [fX9_passDays_2, if_neg (nI_ge (by omega) (by omega)), hY.1, sGoesOn]
      by_cases h4 : (400 : Int32) ≤ T 54
      · rw [if_pos h4, if_pos h4]
        exact ⟨Y, rfl, hf, rfl, hY⟩
      · rw [if_neg h4, if_neg h4]
        obtain ⟨Y1, a1, a2, a3, a4⟩ := x_passDay ho (wLd_same hS hW) (rLd_same hP hN hS (hf.ld ho hL)) hY
        obtain ⟨Y2, b1, b2, b3, b4⟩ := ih (k + 1) n Y1 (sDay T P N) (by omega) (by omega) (hS.tr sDay_L) (hf.tr a2) a4
        rw [a1]
        simp only [pb_bs, nI_1]
        rw [b1]
        exact ⟨Y2, by rw [show k + 1 + (sGoesOn P N c (sDay T P N)).1 = k + ((sGoesOn P N c (sDay T P N)).1 + 1) by omega], b2, b3.trans a3, b4⟩
  obtain ⟨X', h1, h2, h3, h4⟩ := key K 0 mx_fu X S (by omega) (by unfold mx_fu; omega) sameL.rf xFr.rf hR
  rw [Nat.zero_add] at h1
  exact ⟨X', h1, h2, h3, h4⟩
