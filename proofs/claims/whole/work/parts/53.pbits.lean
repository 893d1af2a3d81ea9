/-! sets as bits: all of them below 128 -/
def popc (m : Nat) : Nat := m % 2 + m / 2 % 2 + m / 4 % 2 + m / 8 % 2 + m / 16 % 2 + m / 32 % 2 + m / 64 % 2
def pM0 : MM := (fun _ _ => 0, fun _ _ => 0, fun _ _ => 0)
theorem bit_or : ∀ m, m < 128 → ∀ r, r < 7 → nI m ||| ((1 : Int32) <<< (nI r &&& 31)) = nI (m ||| 2 ^ r) ∧ m ||| 2 ^ r < 128 := by decide +kernel
theorem bit_tst : ∀ m, m < 128 → ∀ r, r < 7 → decide (((nI m >>> (nI r &&& 31)) &&& (1 : Int32)) = 1) = m.testBit r := by decide +kernel
theorem bit_cnt : ∀ m, m < 128 → fJ6_bitCount_0f7a4 (nI m) pM0 = some (nI (popc m)) := by decide +kernel
theorem bit_cntm : ∀ m, m < 128 → fX13_bits (nI m) pM0 = some (nI (popc m)) := by decide +kernel
theorem bit_one : ∀ m, m < 128 → 1 ≤ popc m → ∃ r, r < 7 ∧ m.testBit r = true := by decide +kernel
theorem bit_pop : ∀ m, m < 128 → popc m ≤ 7 := by decide +kernel
theorem bit_hi : ∀ m, m < 128 → ∀ r, 7 ≤ r → m.testBit r = false := by
  intro m hm r hr
  apply Nat.testBit_lt_two_pow
  calc m < 2 ^ 7 := hm
    _ ≤ 2 ^ r := Nat.pow_le_pow_right (by omega) hr
theorem x_bitCount {m : Nat} {M : MM} (hm : m < 128) : fJ6_bitCount_0f7a4 (nI m) M = some (nI (popc m)) := bit_cnt m hm
theorem m_bits_M (x : Int32) (M : MM) : ∀ n a b, fX13_bits_4 x M n a b = fX13_bits_4 x pM0 n a b := by
  intro n
  induction n with
  | zero => intro a b; rfl
  | succ n ih =>
    intro a b
    rw [fX13_bits_4, fX13_bits_4, ih]
theorem m_bits {m : Nat} {M : MM} (hm : m < 128) : fX13_bits (nI m) M = some (nI (popc m)) := by
  rw [← bit_cntm m hm, fX13_bits, fX13_bits, m_bits_M]
theorem m_bitOf {m r : Nat} {M : MM} (hm : m < 128) (hr : r < 7) : fX13_bitOf (nI m) (nI r) M = some (m.testBit r) := by
  rw [fX13_bitOf, ← bit_tst m hm r hr]
  split <;> simp_all
theorem pbits_from {f : Nat → Bool} : ∀ (c k m : Nat), k + c ≤ 7 → m < 128 → (∀ r, m.testBit r = (decide (r < k) && f r)) → ∃ m', m' < 128 ∧ pfor (fun k acc => if f k then acc ||| ((1 : Int32) <<< (nI k &&& 31)) else acc) k c (nI m) = nI m' ∧ ∀ r, m'.testBit r = (decide (r < k + c) && f r) := by
  intro c
  induction c with
  | zero => intro k m _ hm h; exact ⟨m, hm, rfl, h⟩
  | succ c ih =>
    intro k m hk hm h
    rw [pfor]
    by_cases hf : f k = true
    · obtain ⟨e, hlt⟩ := bit_or m hm k (by omega)
      rw [if_pos hf, e]
      obtain ⟨m', h1, h2, h3⟩ := ih (k + 1) (m ||| 2 ^ k) (by omega) hlt (fun r => by
        rw [Nat.testBit_or, h r, Nat.testBit_two_pow]
        by_cases hrk : k = r
        · subst hrk
          simp [hf]
        · by_cases h1 : r < k
          · have : r < k + 1 := by omega
            simp [h1, this, hrk]
          · have : ¬ r < k + 1 := by omega
            simp [h1, this, hrk])
      exact ⟨m', h1, h2, fun r => by rw [h3 r, show k + 1 + c = k + (c + 1) by omega]⟩
    · rw [if_neg hf]
      obtain ⟨m', h1, h2, h3⟩ := ih (k + 1) m (by omega) hm (fun r => by
        rw [h r]
        by_cases hrk : r = k
        · subst hrk
          simp [Bool.not_eq_true] at hf
          simp [hf]
        · by_cases h1 : r < k
          · have : r < k + 1 := by omega
            simp [h1, this]
          · have : ¬ r < k + 1 := by omega
            simp [h1, this])
      exact ⟨m', h1, h2, fun r => by rw [h3 r, show k + 1 + c = k + (c + 1) by omega]⟩
theorem pbits_nI {f : Nat → Bool} {N : Nat} (hN : N ≤ 7) : ∃ m, m < 128 ∧ pbits f N = nI m ∧ ∀ r, m.testBit r = (decide (r < N) && f r) := by
  obtain ⟨m, h1, h2, h3⟩ := pbits_from (f := f) N 0 0 (by omega) (by omega) (fun r => by simp)
  exact ⟨m, h1, h2, fun r => by rw [h3 r, Nat.zero_add]⟩
/-- the greatest below n that is so -/
def pgr (f : Nat → Bool) : Nat → Nat
  | 0 => 0
  | n + 1 => if f n then n else pgr f n
theorem pgr_lt {f : Nat → Bool} : ∀ n, (∃ r, r < n ∧ f r = true) → pgr f n < n ∧ f (pgr f n) = true := by
  intro n
  induction n with
  | zero => intro ⟨r, h, _⟩; omega
  | succ n ih =>
    intro ⟨r, h, hf⟩
    rw [pgr]
    by_cases hn : f n = true
    · rw [if_pos hn]
      exact ⟨by omega, hn⟩
    · rw [if_neg hn]
      have hr : r ≠ n := fun e => hn (e ▸ hf)
      obtain ⟨h1, h2⟩ := ih ⟨r, by omega, hf⟩
      exact ⟨by omega, h2⟩
