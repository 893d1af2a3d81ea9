/-! the codes behind the state stay; undoing; trying -/
def sameC (S S' : Nat → Int32) : Prop := ∀ i, 113 ≤ i → S' i = S i
theorem sameC.rf {S : Nat → Int32} : sameC S S := fun _ _ => rfl
theorem sameC.tr {S S' S'' : Nat → Int32} (h1 : sameC S S') (h2 : sameC S' S'') : sameC S S'' := fun i hi => (h2 i hi).trans (h1 i hi)
theorem sameC.up {S S' : Nat → Int32} {k : Nat} {v : Int32} (h : sameC S S') (hk : k < 113) : sameC S (upd S' k v) := fun i hi => by rw [pk_un (by omega)]; exact h i hi
theorem pgr_le {f : Nat → Bool} : ∀ n, pgr f n ≤ n - 1 := by
  intro n
  induction n with
  | zero => exact Nat.le_refl _
  | succ n ih =>
    rw [pgr]
    split
    · omega
    · omega
theorem sDue_C {r : Nat} {S S0 : Nat → Int32} (hr : r < 7) (h : sameC S0 S) : sameC S0 (sDue r S) := by
  unfold sDue
  split
  · exact h.up (by omega)
  · exact h
theorem sDrain_C {N q : Nat} {S S0 : Nat → Int32} (hN : N ≤ 7) (hq : q < 7) (h : sameC S0 S) : sameC S0 (sDrain N q S) := by
  unfold sDrain
  split
  · have := pgr_le (f := sKeeps S (nI q)) N
    unfold sLose
    exact ((((h.up (by omega)).up (by omega)).up (by omega)).up (by omega)).up (by omega)
  · exact h.up (by omega)
theorem sDay_C {S : Nat → Int32} {P N : Nat} (hP : P ≤ 7) (hN : N ≤ 7) : sameC S (sDay S P N) := by
  have h1 : sameC S (pfor sDue 0 N S) := pfor_inv (sameC S) N 0 S (fun j s _ hj h => sDue_C (by omega) h) sameC.rf
  have h2 : sameC S (pfor (sDrain N) 0 P (pfor sDue 0 N S)) := pfor_inv (sameC S) P 0 _ (fun j s _ hj h => sDrain_C hN (by omega) h) h1
  exact h2.up (by omega)
theorem sGoesOn_C {P N : Nat} (hP : P ≤ 7) (hN : N ≤ 7) : ∀ (n : Nat) (S S0 : Nat → Int32), sameC S0 S → sameC S0 (sGoesOn P N n S).2 := by
  intro n
  induction n with
  | zero => intro S S0 h; exact h
  | succ n ih =>
    intro S S0 h
    rw [sGoesOn]
    split
    · exact h
    · exact ih _ _ (h.tr (sDay_C hP hN))
theorem sDrawP_C {P N q : Nat} {z : Int32 × (Nat → Int32)} {S0 : Nat → Int32} (hq : q < 7) (hN : N ≤ 7) (h : sameC S0 z.2) : sameC S0 (sDrawP P N q z).2 := by
  obtain ⟨x, S⟩ := z
  unfold sDrawP
  simp only
  split
  · simp only
    split
    · exact (((h.up (by omega)).up (by omega)).up (by omega)).up (by omega)
    · exact h
  · split
    · split
      · exact h
      · simp only
        have := sDr_lt (x := sSeed x) (d := N) (by omega)
        split
        · exact (h.up (by omega)).up (by omega)
        · exact h
    · split
      · split
        · exact h
        · simp only
          have := sDr_lt (x := sSeed x) (d := N) (by omega)
          split
          · exact h.up (by omega)
          · exact h
      · split
        · simp only
          split
          · exact h
          · rename_i hw
            have := (sWorn_is hN hw).2.1
            exact h.up (by omega)
        · exact h
theorem sDraws_C {P N : Nat} (hP : P ≤ 7) (hN : N ≤ 7) : ∀ (n : Nat) (z : Int32 × (Nat → Int32)) (S0 : Nat → Int32), sameC S0 z.2 → sameC S0 (sDraws P N n z).2.2 := by
  intro n
  induction n with
  | zero => intro z S0 h; exact h
  | succ n ih =>
    intro z S0 h
    rw [sDraws]
    split
    · exact h
    · have h1 : sameC S0 (pfor (sDrawP P N) 0 P z).2 := pfor_inv (fun z => sameC S0 z.2) P 0 z (fun j z _ hj h => sDrawP_C (by omega) hN h) h
      exact ih _ _ (h1.tr (sDay_C hP hN))
theorem m_undo26 {Y : MM} {U : Nat} (hU : U < 8) (h : Y.1 0 23 = nI U) : fX13_undo_26 mx_fu (nI 0) Y = some (nI U, cpR Y 2 (fun i => Y.1 7 (59 * U + i)) 54 59) := by
  have key := (loop_all (fun n k (_ : Unit) => fX13_undo_26 n (nI k) (cpR Y 2 (fun i => Y.1 7 (59 * U + i)) 54 k)) 59 (fun _ u => u) (fun _ => some (nI U, cpR Y 2 (fun i => Y.1 7 (59 * U + i)) 54 59)) (fun _ _ => True) () (by omega) trivial (fun n _ _ => by
      show fX13_undo_26 (n + 1) (nI 59) _ = _
      rw [fX13_undo_26, c59, if_pos (nI_le (by omega) (by omega)), cpR_n (by omega), h]) (fun n k _ hk _ => ⟨by
      show fX13_undo_26 (n + 1) (nI k) _ = fX13_undo_26 n (nI (k + 1)) _
      rw [fX13_undo_26, c59, if_neg (nI_ge hk (by omega)), cpR_n (by omega), cpR_n (by omega), h, c54]
      simp only [nI_add, nI_mul, nI_1]
      rw [pb_gd (by omega) (by omega), pb_gd (by omega) (by omega), nI_clamp (by omega), nI_clamp (by omega)]
      exact congrArg _ cpR_s, trivial⟩)).1
  have key : fX13_undo_26 mx_fu (nI 0) (cpR Y 2 (fun i => Y.1 7 (59 * U + i)) 54 0) = _ := key
  rw [cpR_0] at key
  exact key
theorem m_tries {Y : MM} : fX13_tries Y = some (cpR Y 8 (fun i => Y.1 2 (54 + i)) 0 59) := by
  have key := (loop_all (fun n k (_ : Unit) => fX13_tries_2 n (nI k) (cpR Y 8 (fun i => Y.1 2 (54 + i)) 0 k)) 59 (fun _ u => u) (fun _ => some (cpR Y 8 (fun i => Y.1 2 (54 + i)) 0 59)) (fun _ _ => True) () (by omega) trivial (fun n _ _ => by
      show fX13_tries_2 (n + 1) (nI 59) _ = _
      rw [fX13_tries_2, c59, if_pos (nI_le (by omega) (by omega))]) (fun n k _ hk _ => ⟨by
      show fX13_tries_2 (n + 1) (nI k) _ = fX13_tries_2 n (nI (k + 1)) _
      rw [fX13_tries_2, c59, if_neg (nI_ge hk (by omega)), cpR_n (by omega), c54]
      simp only [nI_add, nI_1]
      rw [pb_gd (by omega) (by omega), pb_gd (by omega) (by omega), nI_clamp (by omega), nI_clamp (by omega)]
      have := cpR_s (Y := Y) (c := 8) (b := 0) (k := k) (f := fun i => Y.1 2 (54 + i))
      rw [Nat.zero_add] at this
      exact congrArg _ this, trivial⟩)).1
  have key : fX13_tries_2 mx_fu (nI 0) (cpR Y 8 (fun i => Y.1 2 (54 + i)) 0 0) = _ := key
  rw [cpR_0] at key
  exact key
theorem m_back {Y : MM} : fX13_back Y = some (cpR Y 2 (fun i => Y.1 8 i) 54 59) := by
  have key := (loop_all (fun n k (_ : Unit) => fX13_back_2 n (nI k) (cpR Y 2 (fun i => Y.1 8 i) 54 k)) 59 (fun _ u => u) (fun _ => some (cpR Y 2 (fun i => Y.1 8 i) 54 59)) (fun _ _ => True) () (by omega) trivial (fun n _ _ => by
      show fX13_back_2 (n + 1) (nI 59) _ = _
      rw [fX13_back_2, c59, if_pos (nI_le (by omega) (by omega))]) (fun n k _ hk _ => ⟨by
      show fX13_back_2 (n + 1) (nI k) _ = fX13_back_2 n (nI (k + 1)) _
      rw [fX13_back_2, c59, if_neg (nI_ge hk (by omega)), cpR_n (by omega), c54]
      simp only [nI_add, nI_1]
      rw [pb_gd (by omega) (by omega), pb_gd (by omega) (by omega), nI_clamp (by omega), nI_clamp (by omega)]
      exact congrArg _ cpR_s, trivial⟩)).1
  have key : fX13_back_2 mx_fu (nI 0) (cpR Y 2 (fun i => Y.1 8 i) 54 0) = _ := key
  rw [cpR_0] at key
  exact key
