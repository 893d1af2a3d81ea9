/-! words as numbers -/
theorem enc_bd : ∀ (n a b : Nat), enc n a b → a < 32 ^ n ∧ b < 256 ^ n := by
  intro n
  induction n with
  | zero => intro a b ⟨h1, h2⟩; subst h1; subst h2; exact ⟨by decide, by decide⟩
  | succ n ih =>
    intro a b ⟨a', b', c, h, h1, h2, e1, e2⟩
    obtain ⟨i1, i2⟩ := ih a' b' h
    rw [Nat.pow_succ, Nat.pow_succ]
    exact ⟨by omega, by omega⟩
theorem enc_inj : ∀ (n m a b a2 b2 : Nat), enc n a b → enc m a2 b2 → (a = a2 ↔ b = b2) := by
  intro n
  induction n with
  | zero =>
    intro m a b a2 b2 ⟨h1, h2⟩ h
    cases m with
    | zero => obtain ⟨h3, h4⟩ := h; omega
    | succ m => obtain ⟨a', b', c, -, h3, h4, e1, e2⟩ := h; omega
  | succ n ih =>
    intro m a b a2 b2 ⟨a', b', c, h, h1, h2, e1, e2⟩ g
    cases m with
    | zero => obtain ⟨h3, h4⟩ := g; omega
    | succ m =>
      obtain ⟨a3, b3, d, h', h3, h4, e3, e4⟩ := g
      have := ih m a' b' a3 b3 h h'
      omega
theorem enc_dig : ∀ (n a b : Nat), enc n a b → ∀ k, (k < n → ∃ c, 1 ≤ c ∧ c ≤ 26 ∧ a / 32 ^ k % 32 = c ∧ b / 256 ^ k % 256 = c + 96) ∧ (n ≤ k → a / 32 ^ k % 32 = 0 ∧ b / 256 ^ k % 256 = 0) := by
  intro n
  induction n with
  | zero =>
    intro a b ⟨h1, h2⟩ k
    subst h1; subst h2
    exact ⟨fun h => absurd h (by omega), fun _ => by simp⟩
  | succ n ih =>
    intro a b ⟨a', b', c, h, h1, h2, e1, e2⟩ k
    cases k with
    | zero =>
      refine ⟨fun _ => ⟨c, h1, h2, ?_, ?_⟩, fun h => absurd h (by omega)⟩
      · rw [Nat.pow_zero, Nat.div_one]; omega
      · rw [Nat.pow_zero, Nat.div_one]; omega
    | succ k =>
      have d1 : a / 32 ^ (k + 1) = a' / 32 ^ k := by
        rw [Nat.pow_succ, Nat.mul_comm, ← Nat.div_div_eq_div_mul]
        congr 1; omega
      have d2 : b / 256 ^ (k + 1) = b' / 256 ^ k := by
        rw [Nat.pow_succ, Nat.mul_comm, ← Nat.div_div_eq_div_mul]
        congr 1; omega
      rw [d1, d2]
      obtain ⟨i1, i2⟩ := ih a' b' h k
      exact ⟨fun h => i1 (by omega), fun h => i2 (by omega)⟩
theorem enc_sz {n a b : Nat} (hn : n ≤ 7) (h : enc n a b) : a < 2 ^ 35 ∧ b < 2 ^ 56 := by
  obtain ⟨h1, h2⟩ := enc_bd n a b h
  have e1 : (32 : Nat) ^ n ≤ 32 ^ 7 := Nat.pow_le_pow_right (by omega) hn
  have e2 : (256 : Nat) ^ n ≤ 256 ^ 7 := Nat.pow_le_pow_right (by omega) hn
  exact ⟨by omega, by omega⟩
theorem rN_inj {x y x2 y2 : Int64} (h : rN x y) (h2 : rN x2 y2) : x = x2 ↔ y = y2 := by
  obtain ⟨n, a, b, hn, he, rfl, rfl⟩ := h
  obtain ⟨m, a2, b2, hm, he2, rfl, rfl⟩ := h2
  obtain ⟨s1, s2⟩ := enc_sz hn he
  obtain ⟨t1, t2⟩ := enc_sz hm he2
  rw [pk_lEQ (by omega) (by omega), pk_lEQ (by omega) (by omega)]
  exact enc_inj n m a b a2 b2 he he2
/-! digits as the two sides take them -/
theorem lushr_nat (x : Int64) (s : Int32) (k : Nat) (hs : ((s.toInt64.toUInt64 &&& Int64.toUInt64 63).toBitVec % 64).toNat = k) : (mx_lushr x s).toBitVec.toNat = x.toBitVec.toNat / 2 ^ k := by
  show (x.toBitVec >>> ((s.toInt64.toUInt64 &&& Int64.toUInt64 63).toBitVec % 64)).toNat = _
  rw [BitVec.ushiftRight_eq', BitVec.toNat_ushiftRight, hs, Nat.shiftRight_eq_div_pow]
theorem lN_tn {n : Nat} (h : n < 2 ^ 64) : (lN n).toBitVec.toNat = n := Nat.mod_eq_of_lt h
theorem digA {a k : Nat} {s : Int32} (ha : a < 2 ^ 35) (hs : ((s.toInt64.toUInt64 &&& Int64.toUInt64 63).toBitVec % 64).toNat = k) : ((mx_lushr (lN a) s).toInt32) &&& (31 : Int32) = nI (a / 2 ^ k % 32) := by
  rw [pk_and _ 5 (by decide)]
  congr 1
  show ((mx_lushr (lN a) s).toBitVec.signExtend 32).toNat % 2 ^ 5 = _
  rw [BitVec.signExtend_eq_setWidth_of_le _ (by omega), BitVec.toNat_setWidth, lushr_nat _ _ k hs, lN_tn (by omega)]
  omega
theorem digB {b k : Nat} {s : Int32} (hb : b < 2 ^ 56) (hs : ((s.toInt64 &&& 63).toBitVec.smod 64).toNat = k) : (lN b >>> (s.toInt64 &&& 63)) &&& (255 : Int64) = lN (b / 2 ^ k % 256) := by
  apply Int64.toBitVec_inj.mp
  apply BitVec.eq_of_toNat_eq
  show (((lN b).toBitVec.sshiftRight' ((s.toInt64 &&& 63).toBitVec.smod 64)) &&& (255 : Int64).toBitVec).toNat = _
  have hm : (lN b).toBitVec.msb = false := by
    rw [BitVec.msb_eq_false_iff_two_mul_lt, lN_tn (by omega)]; omega
  rw [show (lN b).toBitVec.sshiftRight' ((s.toInt64 &&& 63).toBitVec.smod 64) = (lN b).toBitVec.sshiftRight ((s.toInt64 &&& 63).toBitVec.smod 64).toNat from rfl, BitVec.sshiftRight_eq_of_msb_false hm, BitVec.toNat_and, BitVec.toNat_ushiftRight, hs, lN_tn (by omega), lN_tn (by omega), Nat.shiftRight_eq_div_pow]
  show b / 2 ^ k &&& (2 ^ 8 - 1) = _
  rw [Nat.and_two_pow_sub_one_eq_mod]
