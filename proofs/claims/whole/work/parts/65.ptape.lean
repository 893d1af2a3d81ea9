/-! the tape -/
theorem byte_sh (x s : Int32) (k : Nat) (h1 : (s.toBitVec.smod 32).toNat = k) (h2 : ((s.toUInt32 &&& Int32.toUInt32 31).toBitVec % 32).toNat = k) (h3 : s &&& 31 = s) (hk : k ≤ 24) : (mx_ushr x s).toInt8 = (x >>> (s &&& 31)).toInt8 := by
  rw [h3]
  apply Int8.toBitVec_inj.mp
  have a := pk_ushr x s k h2
  have b := pk_shr x s k h1
  apply BitVec.eq_of_toNat_eq
  show ((mx_ushr x s).toBitVec.signExtend 8).toNat = ((x >>> s).toBitVec.signExtend 8).toNat
  rw [BitVec.signExtend_eq_setWidth_of_le _ (by omega), BitVec.signExtend_eq_setWidth_of_le _ (by omega), BitVec.toNat_setWidth, BitVec.toNat_setWidth]
  have a' : (mx_ushr x s).toBitVec.toNat = x.toBitVec.toNat / 2 ^ k := a
  rw [a']
  have e : (((x >>> s).toBitVec.toNat : Nat) : Int) % (2 ^ 8 : Nat) = (((x.toBitVec.toNat / 2 ^ k : Nat)) : Int) % (2 ^ 8 : Nat) := by
    have hx : (x >>> s).toInt = x.toInt >>> k := b
    have t1 : ∀ y : Int32, ∃ z : Int, (y.toBitVec.toNat : Int) = y.toInt + z * 2 ^ 32 := fun y => by
      have := BitVec.toInt_eq_toNat_cond y.toBitVec
      have e : y.toInt = y.toBitVec.toInt := rfl
      rw [e, this]
      split
      · exact ⟨0, by omega⟩
      · exact ⟨1, by omega⟩
    obtain ⟨z1, e1⟩ := t1 (x >>> s)
    obtain ⟨z2, e2⟩ := t1 x
    rw [e1, hx, Int.shiftRight_eq_div_pow]
    have e3 : ((x.toBitVec.toNat / 2 ^ k : Nat) : Int) = (x.toInt + z2 * 2 ^ 32) / 2 ^ k := by
      rw [← e2]; simp
    have e4 : (2 : Int) ^ 32 = 2 ^ (32 - k) * 2 ^ k := by
      rw [← Int.pow_add]; congr 1; omega
    rw [e3, e4, ← Int.mul_assoc z2, ← Int.mul_assoc z1, Int.add_mul_ediv_right _ _ (show (2 : Int) ^ k ≠ 0 from Int.pow_ne_zero (by decide))]
    have e5 : (2 : Int) ^ (32 - k) = 2 ^ (24 - k) * 2 ^ 8 := by
      rw [← Int.pow_add]; congr 1; omega
    have e6 : (2 : Int) ^ (32 - k) * 2 ^ k = 2 ^ 24 * 2 ^ 8 := by rw [← e4]; decide
    have q8 : ((2 ^ 8 : Nat) : Int) = 2 ^ 8 := by decide
    have qk : ((2 ^ k : Nat) : Int) = 2 ^ k := by simp
    rw [q8, qk, show z1 * 2 ^ (32 - k) * 2 ^ k = (z1 * 2 ^ 24) * 2 ^ 8 by rw [Int.mul_assoc, e6, Int.mul_assoc], e5, ← Int.mul_assoc, Int.add_mul_emod_self_right, Int.add_mul_emod_self_right]
  have : (((x >>> s).toBitVec.toNat % 2 ^ 8 : Nat) : Int) = ((x.toBitVec.toNat / 2 ^ k % 2 ^ 8 : Nat) : Int) := by
    rw [Int.natCast_emod, Int.natCast_emod]
    exact e
  omega
def tpR (X Y : MM) (L : Nat) : Prop := X.1 1 1 = nI L ∧ Y.1 0 2 = nI L ∧ ∀ i, i < L → X.1 2 i = Y.1 1 i
/-- only the tapes changed -/
def tpF (X X' Y Y' : MM) : Prop := (∀ k, k ≠ 1 → k ≠ 2 → X'.1 k = X.1 k) ∧ X'.2 = X.2 ∧ (∀ k, k ≠ 0 → k ≠ 1 → Y'.1 k = Y.1 k) ∧ (∀ j, j ≠ 2 → Y'.1 0 j = Y.1 0 j) ∧ Y'.2 = Y.2
theorem tpF.tr {X X1 X2 Y Y1 Y2 : MM} (a : tpF X X1 Y Y1) (b : tpF X1 X2 Y1 Y2) : tpF X X2 Y Y2 := ⟨fun k h1 h2 => (b.1 k h1 h2).trans (a.1 k h1 h2), b.2.1.trans a.2.1, fun k h1 h2 => (b.2.2.1 k h1 h2).trans (a.2.2.1 k h1 h2), fun j h => (b.2.2.2.1 j h).trans (a.2.2.2.1 j h), b.2.2.2.2.trans a.2.2.2.2⟩
theorem feed1 {X Y : MM} {L : Nat} {v s : Int32} (hs : (mx_ushr v s).toInt8 = (v >>> (s &&& 31)).toInt8) (h0 : ¬ s < 0) (hL : L < 940) (h : tpR X Y L) : ∃ X' Y', (∀ n, fX10_add_3 v (n + 1) s X = fX10_add_3 v n (s + (-8 : Int32)) X') ∧ (∀ n, fX13_four_3 v (n + 1) s Y = fX13_four_3 v n (s + (-8 : Int32)) Y') ∧ tpR X' Y' (L + 1) ∧ tpF X X' Y Y' := by
  obtain ⟨h1, h2, h3⟩ := h
  refine ⟨mx_si (mx_si X 2 L ((mx_ushr v s).toInt8.toInt32).toInt8.toInt32) 1 1 (nI (L + 1)), mx_si (mx_si Y 1 L ((v >>> (s &&& 31)).toInt8.toInt32).toInt8.toInt32) 0 2 (nI (L + 1)), fun n => ?_, fun n => ?_, ?_, ?_⟩
  · rw [fX10_add_3, if_neg h0, h1, c940, if_neg (nI_ge hL (by omega)), pb_gd hL (by omega), nI_clamp (by omega), si_nk (by omega), h1, nI_1]
  · rw [fX13_four_3, if_neg h0, h2, pb_gd hL (by omega), nI_clamp (by omega), si_nk (by omega), h2, nI_1]
  · refine ⟨si_eq, si_eq, fun i hi => ?_⟩
    rw [si_nk (k := 1) (j := 1) (by omega), si_nk (k := 0) (j := 2) (by omega), hs]
    by_cases e : i = L
    · subst e; rw [si_eq, si_eq]
    · rw [si_nj e, si_nj e]; exact h3 i (by omega)
  · refine ⟨fun k k1 k2 => ?_, rfl, fun k k0 k1 => ?_, fun j hj => ?_, rfl⟩
    · rw [si_row k1, si_row k2]
    · rw [si_row k0, si_row k1]
    · rw [si_nj hj, si_nk (by omega)]
theorem feed4 {X Y : MM} {L : Nat} {v : Int32} (hL : L + 4 ≤ 940) (h : tpR X Y L) : ∃ X' Y', fX10_add v X = some X' ∧ fX13_four v Y = some Y' ∧ tpR X' Y' (L + 4) ∧ tpF X X' Y Y' := by
  have h3 : ∀ s ∈ ([24, 16, 8, 0] : List Int32), s &&& 31 = s := by decide
  obtain ⟨X1, Y1, a1, b1, t1, f1⟩ := feed1 (v := v) (s := 24) (byte_sh v 24 24 (by decide) (by decide) (by decide) (by omega)) (by decide) (by omega) h
  obtain ⟨X2, Y2, a2, b2, t2, f2⟩ := feed1 (v := v) (s := 16) (byte_sh v 16 16 (by decide) (by decide) (by decide) (by omega)) (by decide) (by omega) t1
  obtain ⟨X3, Y3, a3, b3, t3, f3⟩ := feed1 (v := v) (s := 8) (byte_sh v 8 8 (by decide) (by decide) (by decide) (by omega)) (by decide) (by omega) t2
  obtain ⟨X4, Y4, a4, b4, t4, f4⟩ := feed1 (v := v) (s := 0) (byte_sh v 0 0 (by decide) (by decide) (by decide) (by omega)) (by decide) (by omega) t3
  have e24 : (24 : Int32) + (-8 : Int32) = 16 := by decide
  have e16 : (16 : Int32) + (-8 : Int32) = 8 := by decide
  have e8 : (8 : Int32) + (-8 : Int32) = 0 := by decide
  have e0 : (0 : Int32) + (-8 : Int32) < 0 := by decide
  refine ⟨X4, Y4, ?_, ?_, t4, ((f1.tr f2).tr f3).tr f4⟩
  · rw [fX10_add, show mx_fu = 9995 + 1 + 1 + 1 + 1 + 1 from rfl, a1, e24, a2, e16, a3, e8, a4, fX10_add_3, if_pos e0]
  · rw [fX13_four, show mx_fu = 9995 + 1 + 1 + 1 + 1 + 1 from rfl, b1, e24, b2, e16, b3, e8, b4, fX13_four_3, if_pos e0]
/-- the invariant, but for the tape, over calls that touch the tapes alone -/
theorem Inv.tpe {X X' Y Y' : MM} {P N : Nat} (h : Inv X Y P N) (hF : tpF X X' Y Y') (ht : rTp X' Y') : Inv X' Y' P N := by
  obtain ⟨f1, f2, f3, f4, f5⟩ := hF
  have hP := h.p7
  have hN := h.n7
  have e2 : Y'.1 2 = Y.1 2 := f3 2 (by omega) (by omega)
  refine ⟨by rw [e2]; exact h.ld, by rw [e2]; exact h.st, ?_, ?_, ?_, ?_, ?_, ht, ?_, ?_, ?_, ?_, ?_, ?_, ?_⟩
  · rw [e2, ← rLo_9]; exact rLo_fr (fun k a b => f1 k (by omega) (by omega)) hP hN (fun _ _ => rfl) h.rl
  · rw [e2]; exact rSt_fr (fun k a b => f1 k (by omega) (by omega)) h.rs
  · exact rPast_fr (fun k a b => f1 k (by omega) (by omega)) (by rw [f2]) (f3 7 (by omega) (by omega)) (f4 23 (by omega)) h.pa
  · exact rNm_fr (by rw [f2]) (by rw [f2]) hP hN (fun i _ => by rw [f5]) h.nm
  · rw [e2]; exact rSy_fr (f1 _ (by omega) (by omega)) (by rw [f2]) (f1 _ (by omega) (by omega)) (f1 _ (by omega) (by omega)) (fun _ _ => rfl) h.sy
  · rw [f1 0 (by omega) (by omega), f4 15 (by omega)]; exact h.ft
  · exact rIm_fr (fun j hj => f1 j (by omega) (by omega)) (fun j hj => by rw [f2]) (fun j hj => by rw [f2]) (f3 19 (by omega) (by omega)) (by rw [f5]) (f3 21 (by omega) (by omega)) h.im
  · exact rPl_fr (by rw [f1 143 (by omega) (by omega)]) (f1 _ (by omega) (by omega)) (f1 _ (by omega) (by omega)) (f4 26 (by omega)) (f3 10 (by omega) (by omega)) (f4 29 (by omega)) (f3 12 (by omega) (by omega)) h.pl
  · exact rFi_fr (f1 _ (by omega) (by omega)) (f4 32 (by omega)) (f4 30 (by omega)) (f4 31 (by omega)) h.fi
  · exact rNt_fr (f1 _ (by omega) (by omega)) (f1 _ (by omega) (by omega)) (f4 37 (by omega)) (f3 15 (by omega) (by omega)) h.nt
  · exact rBk_fr (fun j _ => by rw [f1 138 (by omega) (by omega)]) (f4 41 (by omega)) (f3 16 (by omega) (by omega)) h.bk
  · obtain ⟨a, b, c⟩ := h.rf
    refine ⟨fun k hk => ?_, fun i hi => ?_, fun k hk => ?_⟩
    · rw [f2]; exact a k hk
    · rw [f2]; exact b i hi
    · rw [f5]; exact c k hk
theorem q_feed {X Y : MM} {P N : Nat} {a b c d e : Int32} (h : Inv X Y P N) : RW (fX12_feed a b c d e X) (fX13_feed a b c d e Y) := by
  obtain ⟨L, hL, t1, t2, t3⟩ := h.tp
  rw [fX12_feed, fX13_feed, fX10_hasRoom, t1, si_nj (by omega), t2, c20, c940, nI_add]
  have e2 : (mx_si Y 0 0 (0 : Int32)).1 0 2 = nI L := by rw [si_nj (by omega)]; exact t2
  by_cases hr : L + 20 ≤ 940
  · have h1 : ¬ nI 940 < nI (L + 20) := nI_nlt (by omega) (by omega)
    have h2 : nI (L + 20) ≤ nI 940 := nI_le (by omega) (by omega)
    rw [if_neg h1, if_pos h2]
    simp only [pb_bs]
    rw [if_neg b_t]
    have r0 : tpR X (mx_si Y 0 0 (0 : Int32)) L := ⟨t1, e2, fun i hi => by rw [si_nk (by omega)]; exact t3 i hi⟩
    obtain ⟨X1, Y1, a1, b1, r1, f1⟩ := feed4 (v := a) (by omega) r0
    obtain ⟨X2, Y2, a2, b2, r2, f2⟩ := feed4 (v := b) (by omega) r1
    obtain ⟨X3, Y3, a3, b3, r3, f3⟩ := feed4 (v := c) (by omega) r2
    obtain ⟨X4, Y4, a4, b4, r4, f4⟩ := feed4 (v := d) (by omega) r3
    obtain ⟨X5, Y5, a5, b5, r5, f5⟩ := feed4 (v := e) (by omega) r4
    rw [a1, b1]
    simp only [pb_bs]
    rw [a2, b2]
    simp only [pb_bs]
    rw [a3, b3]
    simp only [pb_bs]
    rw [a4, b4]
    simp only [pb_bs]
    rw [a5, b5]
    simp only [pb_bs]
    rw [r5.1, r5.2.1]
    exact ⟨_, _, _, rfl, rfl, P, N, h.th.tpe ((((f1.tr f2).tr f3).tr f4).tr f5) ⟨L + 20, hr, r5⟩⟩
  · have h1 : nI 940 < nI (L + 20) := nI_lt (by omega) (by omega)
    have h2 : ¬ nI (L + 20) ≤ nI 940 := nI_ge (by omega) (by omega)
    rw [if_pos h1, if_neg h2]
    simp only [pb_bs]
    rw [if_pos b_f]
    exact ⟨_, _, _, rfl, rfl, P, N, h.th⟩
theorem q_end {X Y : MM} {P N : Nat} {i : Int32} (h : Inv X Y P N) : RW (fX12_end i X) (fX13_end i Y) := by
  obtain ⟨L, hL, t1, t2, t3⟩ := h.tp
  rw [fX12_end, fX13_end, fX10_cut, t1, si_nj (by omega), t2]
  by_cases h0 : i < 0
  · rw [if_pos h0, if_pos h0]; exact ⟨_, _, _, rfl, rfl, P, N, h.th⟩
  rw [if_neg h0, if_neg h0]
  by_cases h1 : i ≤ nI L
  · obtain ⟨j, hj, rfl⟩ := nI_of h0
    rw [if_pos h1, if_pos h1]
    rw [pb_le hj (by omega)] at h1
    refine ⟨_, _, _, rfl, rfl, P, N, h.th.tpe (X' := mx_si X 1 1 (nI j)) (Y' := mx_si (mx_si Y 0 0 (0 : Int32)) 0 2 (nI j)) ⟨fun k k1 _ => si_row k1, rfl, fun k k0 _ => si_row k0, fun j hj => si_nj hj, rfl⟩ ⟨j, by omega, si_eq, si_eq, fun i hi => ?_⟩⟩
    rw [si_nk (by omega), si_nk (by omega), si_nk (by omega)]
    exact t3 i (by omega)
  · rw [if_neg h1, if_neg h1]; exact ⟨_, _, _, rfl, rfl, P, N, h.th⟩
