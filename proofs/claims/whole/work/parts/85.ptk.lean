/-! words and numbers of the two sides -/
def encL : List Nat → Nat × Nat
  | [] => (0, 0)
  | c :: l => ((encL l).1 * 32 + c, (encL l).2 * 256 + (c + 96))
theorem enc_list : ∀ l : List Nat, (∀ c, c ∈ l → 1 ≤ c ∧ c ≤ 26) → enc l.length (encL l).1 (encL l).2 := by
  intro l
  induction l with
  | nil => intro _; exact ⟨rfl, rfl⟩
  | cons c l ih =>
    intro h
    exact ⟨(encL l).1, (encL l).2, c, ih (fun d hd => h d (List.mem_cons_of_mem _ hd)), (h c List.mem_cons_self).1, (h c List.mem_cons_self).2, rfl, rfl⟩
def rwL (k : Nat) : List Nat := ([[14, 15, 19, 18, 5, 16], [7, 14, 9, 18], [20, 9, 6], [11, 12, 1, 23], [5, 12, 7, 14, 9, 10], [19, 5, 15, 7], [19, 4, 14, 1, 8], [19, 18, 1, 5, 23], [19, 6, 6, 15, 4], [19, 4, 14, 9, 6], [25, 1, 4], [18, 15], [4, 14, 1], [20, 15, 14], [4, 5, 7, 14, 9, 18], [25, 16, 16, 1, 8], [5, 18, 1, 2], [19, 1, 8], [25, 2], [19, 16, 5, 5, 11], [19, 16, 5, 20, 19], [18, 5, 7, 14, 9, 6], [18, 5, 2, 13, 21, 14]] : List (List Nat)).getD k []
theorem rw_ok : ∀ k, k < 23 → (rwL k).length ≤ 7 ∧ (∀ c, c ∈ rwL k → 1 ≤ c ∧ c ≤ 26) ∧ xwc (k + 1) = lN (encL (rwL k)).1 ∧ resW k = lN (encL (rwL k)).2 := by decide
theorem rN_rw {k : Nat} (hk : k < 23) : rN (xwc (k + 1)) (resW k) := by
  obtain ⟨h1, h2, h3, h4⟩ := rw_ok k hk
  exact ⟨_, _, _, h1, enc_list _ h2, h3, h4⟩
theorem nm_iff {nm wd : Int64} (h : rN nm wd) (h0 : nm ≠ 0) {k : Nat} (hk : k < 23) : cod nm = k + 1 ↔ wd = resW k := by
  rw [cod_iff h0 (by omega) (by omega)]
  exact rN_inj h (rN_rw hk)
theorem nm_iff0 {nm wd : Int64} (h : rN nm wd) (h0 : nm ≠ 0) : cod nm = 0 ↔ ∀ k, k < 23 → wd ≠ resW k := by
  have hl := cod_lt nm
  constructor
  · intro e k hk q
    have := (nm_iff h h0 hk).mpr q
    omega
  · intro e
    rcases Nat.eq_zero_or_pos (cod nm) with q | q
    · exact q
    · have := (nm_iff h h0 (k := cod nm - 1) (by omega)).mp (by omega)
      exact absurd this (e _ (by omega))
theorem shl_or {b c : Nat} (hb : b < 2 ^ 48) (hc : c < 256) : (lN b <<< ((8 : Int32).toInt64 &&& 63)) ||| (nI c).toInt64 = lN (b * 256 + c) := by
  rw [nI_l (by omega)]
  apply Int64.toBitVec_inj.mp
  apply BitVec.eq_of_toNat_eq
  have e1 : (lN b <<< ((8 : Int32).toInt64 &&& 63)).toBitVec.toNat = b * 2 ^ 8 := by
    show ((lN b).toBitVec <<< (((8 : Int32).toInt64 &&& 63).toBitVec.smod 64).toNat).toNat = _
    have e : (((8 : Int32).toInt64 &&& 63).toBitVec.smod 64).toNat = 8 := by decide
    rw [e, BitVec.toNat_shiftLeft, lN_tn (by omega), Nat.shiftLeft_eq, Nat.mod_eq_of_lt (by omega)]
  show ((lN b <<< ((8 : Int32).toInt64 &&& 63)).toBitVec ||| (lN c).toBitVec).toNat = _
  rw [BitVec.toNat_or, e1, lN_tn (by omega), lN_tn (by omega), ← Nat.shiftLeft_eq, ← Nat.shiftLeft_add_eq_or_of_lt (by omega), Nat.shiftLeft_eq]
theorem tS_iff {c : Nat} : tS c = true ↔ 97 ≤ c ∧ c ≤ 122 := by unfold tS; simp
theorem tD_iff {c : Nat} : tD c = true ↔ 48 ≤ c ∧ c ≤ 57 := by unfold tD; simp
theorem wd_enc {t : Nat → Nat} : ∀ c i n a b, n + c ≤ 7 → enc n a b → (∀ k, i ≤ k → k < i + c → tS (t k) = true) → ∃ a' b', enc (n + c) a' b' ∧ fN t i c (lN a) = lN a' ∧ gW t i c n (lN b) = lN b' := by
  intro c
  induction c with
  | zero => intro i n a b hn he hl; exact ⟨a, b, he, rfl, rfl⟩
  | succ c ih =>
    intro i n a b hn he hl
    have hs := hl i (Nat.le_refl _) (by omega)
    have hr := tS_iff.mp hs
    have hz := enc_sz (by omega) he
    have hb2 : b < 2 ^ 48 := by
      have h1 := (enc_bd n a b he).2
      have h2 : 256 ^ n ≤ 256 ^ 6 := Nat.pow_le_pow_right (by omega) (by omega)
      omega
    have hE : enc (n + 1) (a * 32 + (t i - 96)) (b * 256 + t i) := ⟨a, b, t i - 96, he, by omega, by omega, rfl, by omega⟩
    obtain ⟨a', b', h1, h2, h3⟩ := ih (i + 1) (n + 1) _ _ (by omega) hE (fun k k1 k2 => hl k (by omega) (by omega))
    refine ⟨a', b', by rw [show n + (c + 1) = n + 1 + c by omega]; exact h1, ?_, ?_⟩
    · rw [fN, hs, if_pos rfl, ← h2]
      congr 1
      rw [c97, pk_sub (by omega), nI_1, nI_l (by omega), show (32 : Int64) = lN 32 from rfl, lN_mul, lN_add]
      congr 1
      omega
    · rw [gW, if_pos (by omega), shl_or hb2 (by omega), ← h3]
theorem enc_pos {n a b : Nat} (h : enc (n + 1) a b) : 1 ≤ a := by
  obtain ⟨a', b', c, -, h1, -, h2, -⟩ := h
  omega
theorem nm_val {t : Nat → Nat} : ∀ c i sp v, sp + c ≤ 3 → v < 10 ^ sp → (∀ k, i ≤ k → k < i + c → tD (t k) = true ∧ tS (t k) = false) → ∃ v', v' < 10 ^ (sp + c) ∧ fV t i c (nI v) = nI v' ∧ gV t i c sp (nI v) = nI v' := by
  intro c
  induction c with
  | zero => intro i sp v hn hv hl; exact ⟨v, hv, rfl, rfl⟩
  | succ c ih =>
    intro i sp v hn hv hl
    obtain ⟨hd, hs⟩ := hl i (Nat.le_refl _) (by omega)
    have hr := tD_iff.mp hd
    obtain ⟨v', h1, h2, h3⟩ := ih (i + 1) (sp + 1) (v * 10 + (t i - 48)) (by omega) (by rw [Nat.pow_succ]; omega) (fun k k1 k2 => hl k (by omega) (by omega))
    refine ⟨v', by rw [show sp + (c + 1) = sp + 1 + c by omega]; exact h1, ?_, ?_⟩
    · rw [fV, hs, if_neg (by decide), ← h2]
      congr 1
      rw [c48, pk_sub (by omega), c10, pk_mul, nI_add]
    · rw [gV, if_pos (by omega), ← h3]
      congr 1
      rw [c48, c10, pk_mul, nI_add, pk_sub (by omega)]
      congr 1
      omega
theorem cD_0 {t : Nat → Nat} : ∀ c i, cD t i c = 0 → ∀ k, i ≤ k → k < i + c → tS (t k) = true := by
  intro c
  induction c with
  | zero => intro i _ k h1 h2; omega
  | succ c ih =>
    intro i h k h1 h2
    rw [cD] at h
    cases hs : tS (t i)
    · rw [hs] at h
      simp only [Bool.false_eq_true, ↓reduceIte] at h
      omega
    · rw [hs] at h
      simp only [↓reduceIte] at h
      rcases Nat.lt_or_ge i k with q | q
      · exact ih (i + 1) (by omega) k (by omega) (by omega)
      · have : k = i := by omega
        subst this
        exact hs
theorem cS_0 {t : Nat → Nat} : ∀ c i, cS t i c = 0 → ∀ k, i ≤ k → k < i + c → tS (t k) = false := by
  intro c
  induction c with
  | zero => intro i _ k h1 h2; omega
  | succ c ih =>
    intro i h k h1 h2
    rw [cS] at h
    cases hs : tS (t i)
    · rw [hs] at h
      simp only [Bool.false_eq_true, ↓reduceIte] at h
      rcases Nat.lt_or_ge i k with q | q
      · exact ih (i + 1) (by omega) k (by omega) (by omega)
      · have : k = i := by omega
        subst this
        exact hs
    · rw [hs] at h
      simp only [↓reduceIte] at h
      omega
/-- the token of the class at s is the one that the reference has loaded -/
def TK (s : Nat) (X Y : MM) : Prop := X.1 5 s = Y.1 0 12 ∧ X.2.2 8 s < 24 ∧
  ((X.1 4 s = 0 ∧ X.2.2 8 s = 0 ∧ Y.1 0 11 = 4) ∨ (X.1 4 s = 1 ∧ X.2.2 8 s = 0 ∧ Y.1 0 11 = 0) ∨
   (Y.1 0 11 = 1 ∧ rN (X.2.1 7 s) (Y.2.1 0 17) ∧ X.2.1 7 s ≠ 0 ∧ X.2.2 8 s = cod (X.2.1 7 s) ∧ X.1 4 s = if cod (X.2.1 7 s) = 0 then 2 else 3) ∨
   (∃ v, v < 1000 ∧ X.1 4 s = 4 ∧ X.2.2 8 s = 0 ∧ X.1 6 s = nI v ∧ Y.1 0 11 = 2 ∧ Y.1 0 14 = nI v) ∨
   (∃ c, c < 256 ∧ X.1 4 s = 5 ∧ X.2.2 8 s = 0 ∧ X.1 6 s = nI c ∧ Y.1 0 14 = nI c ∧ Y.1 0 11 = if sgC c then 3 else 4))
theorem TK_of {t : Nat → Nat} {L mo j s : Nat} {X Y : MM} (hC : dC t L mo j s X) (hR : dR t L mo j Y) (hj : j ≤ L) (hb : ∀ i, i < L → t i < 256) : TK s X Y := by
  obtain ⟨c1, c2, c3, c4, c5, c6, c7⟩ := hC
  obtain ⟨r1, r3, r4, r5, r6, r7⟩ := hR
  refine ⟨c1.trans r1.symm, c2, ?_⟩
  obtain ⟨s1, s2, s3, s4, s5⟩ := rne_sp (t := t) hj
  rcases kdJ_cs t L mo j with k | k | k | k | k
  · exact Or.inl ⟨(c3 k).1, (c3 k).2, r3 k⟩
  · exact Or.inr (Or.inl ⟨(c4 k).1, (c4 k).2, r4 k⟩)
  · refine Or.inr (Or.inr (Or.inl ?_))
    obtain ⟨a1, a2, a3⟩ := c5 k
    obtain ⟨b1, b2⟩ := r5 k
    have hk := k
    unfold kdJ at hk
    have hjL : j < L := by
      rcases Nat.lt_or_ge j L with q | q
      · exact q
      · exfalso
        split at hk
        · omega
        · omega
    have hw : tA (t j) = true ∧ cD t j (rne t L j - j) = 0 ∧ cS t j (rne t L j - j) ≤ 7 := by
      split at hk
      · omega
      · rw [if_neg (by omega)] at hk
        split at hk
        · rename_i hA
          split at hk
          · rename_i hw
            exact ⟨hA, hw⟩
          · split at hk <;> omega
        · omega
    have h1 := s5 hjL hw.1
    have h2 := cSD t (rne t L j - j) j
    obtain ⟨m, hm⟩ : ∃ m, rne t L j - j = m + 1 := ⟨rne t L j - j - 1, by omega⟩
    obtain ⟨a', b', e1, e2, e3⟩ := wd_enc (t := t) (rne t L j - j) j 0 0 0 (by omega) ⟨rfl, rfl⟩ (cD_0 _ j hw.2.1)
    have e2' : X.2.1 7 s = lN a' := a1.trans e2
    have e3' : Y.2.1 0 17 = lN b' := b2.trans e3
    rw [← a1] at a2 a3
    refine ⟨b1, ?_, ?_, a2, a3⟩
    · exact ⟨_, a', b', by omega, e1, e2', e3'⟩
    · rw [e2', show (0 : Int64) = lN 0 from rfl]
      intro q
      rw [Nat.zero_add] at e1
      have hz := (enc_sz (by omega) e1).1
      rw [hm] at e1
      have := enc_pos e1
      rw [pk_lEQ (by omega) (by omega)] at q
      omega
  · refine Or.inr (Or.inr (Or.inr (Or.inl ?_)))
    obtain ⟨a1, a2, a3⟩ := c6 k
    obtain ⟨b1, b2⟩ := r6 k
    have hk := k
    unfold kdJ at hk
    have hjL : j < L := by
      rcases Nat.lt_or_ge j L with q | q
      · exact q
      · exfalso
        split at hk
        · omega
        · omega
    have hw : tA (t j) = true ∧ cS t j (rne t L j - j) = 0 ∧ cD t j (rne t L j - j) ≤ 3 := by
      split at hk
      · omega
      · rw [if_neg (by omega)] at hk
        split at hk
        · rename_i hA
          split at hk
          · omega
          · split at hk
            · rename_i hw
              exact ⟨hA, hw⟩
            · omega
        · omega
    have h2 := cSD t (rne t L j - j) j
    obtain ⟨v, e1, e2, e3⟩ := nm_val (t := t) (rne t L j - j) j 0 0 (by omega) (by omega) (fun k k1 k2 => by
      have z := cS_0 _ j hw.2.1 k k1 k2
      have y := s4 k k1 (by omega)
      unfold tA at y
      rw [z] at y
      exact ⟨by simpa using y, z⟩)
    have hv : v < 1000 := by
      have : 10 ^ (0 + (rne t L j - j)) ≤ 10 ^ 3 := Nat.pow_le_pow_right (by omega) (by omega)
      omega
    exact ⟨v, hv, a1, a3, a2.trans e2, b1, b2.trans e3⟩
  · refine Or.inr (Or.inr (Or.inr (Or.inr ?_)))
    obtain ⟨a1, a2, a3⟩ := c7 k
    obtain ⟨b1, b2⟩ := r7 k
    have hjL : j < L := by
      rcases Nat.lt_or_ge j L with q | q
      · exact q
      · exfalso
        unfold kdJ at k
        split at k
        · omega
        · omega
    exact ⟨t j, hb j hjL, a1, a3, a2, b1, b2⟩
