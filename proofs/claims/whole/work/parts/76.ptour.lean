/-! tours: the class's table -/
theorem bit_off : ∀ m, m < 128 → ∀ r, r < 7 → m.testBit r = true → nI m &&& (((1 : Int32) <<< (nI r &&& 31)) ^^^ (-1 : Int32)) = nI (m ^^^ 2 ^ r) ∧ m ^^^ 2 ^ r < m ∧ popc (m ^^^ 2 ^ r) + 1 = popc m := by decide +kernel
theorem popc_0 : ∀ m, m < 128 → (popc m = 0 ↔ m = 0) := by decide +kernel
/-- below: every one of m is one of t -/
def sub7 (m t : Nat) : Prop := ∀ r, m.testBit r = true → t.testBit r = true
theorem nI_bit {m i : Nat} : (nI m).toBitVec.getLsbD i = (decide (i < 32) && m.testBit i) := by
  show (BitVec.ofNat 32 m).getLsbD i = _
  rw [BitVec.getLsbD_ofNat]
theorem sub_iff {m t : Nat} (hm : m < 128) (ht : t < 128) : (nI m &&& (nI t ^^^ (-1 : Int32))) = 0 ↔ sub7 m t := by
  constructor
  · intro h r hr
    have hr7 : r < 7 := by
      rcases Nat.lt_or_ge r 7 with e | e
      · exact e
      · rw [bit_hi m hm r e] at hr; cases hr
    have h1 : (nI m &&& (nI t ^^^ (-1 : Int32))).toBitVec.getLsbD r = (0 : Int32).toBitVec.getLsbD r := by rw [h]
    rw [Int32.toBitVec_and, Int32.toBitVec_xor, BitVec.getLsbD_and, BitVec.getLsbD_xor, nI_bit, nI_bit, hr] at h1
    have h2 : (-1 : Int32).toBitVec.getLsbD r = true := by
      have : ∀ r, r < 7 → (-1 : Int32).toBitVec.getLsbD r = true := by decide
      exact this r hr7
    have h3 : (0 : Int32).toBitVec.getLsbD r = false := by
      have : ∀ r, r < 7 → (0 : Int32).toBitVec.getLsbD r = false := by decide
      exact this r hr7
    rw [h2, h3] at h1
    have : r < 32 := by omega
    simp [this] at h1
    exact h1
  · intro h
    apply Int32.toBitVec_inj.mp
    apply BitVec.eq_of_getLsbD_eq
    intro i hi
    rw [Int32.toBitVec_and, Int32.toBitVec_xor, BitVec.getLsbD_and, BitVec.getLsbD_xor, nI_bit, nI_bit]
    have h2 : (-1 : Int32).toBitVec.getLsbD i = true := by
      have : ∀ i, i < 32 → (-1 : Int32).toBitVec.getLsbD i = true := by decide
      exact this i hi
    have h3 : (0 : Int32).toBitVec.getLsbD i = false := by
      have : ∀ i, i < 32 → (0 : Int32).toBitVec.getLsbD i = false := by decide
      exact this i hi
    rw [h2, h3]
    cases hb : m.testBit i
    · simp
    · simp [h i hb, hi]
theorem sub7_off {m t r : Nat} (h : sub7 m t) (hr : m.testBit r = true) : sub7 (m ^^^ 2 ^ r) t := by
  intro j hj
  rw [Nat.testBit_xor, Nat.testBit_two_pow] at hj
  by_cases e : r = j
  · subst e; exact h r hr
  · simp [e] at hj; exact h j hj
/-- the least way, and the first of the least -/
def dst (S : Nat → Int32) (g : Nat → Nat) (left a q acc : Nat) : Nat := if left.testBit q then min acc (frN S a q + g q) else acc
def Dt (S : Nat → Int32) (P : Nat) : Nat → Nat → Nat → Nat
  | 0, _, _ => 0
  | n + 1, left, a => pfor (dst S (fun q => Dt S P n (left ^^^ 2 ^ q) q) left a) 0 P 1000000
def fstT (S : Nat → Int32) (P n left a q : Nat) : Bool := left.testBit q && decide (frN S a q + Dt S P n (left ^^^ 2 ^ q) q = Dt S P (n + 1) left a)
def Rt (S : Nat → Int32) (P : Nat) : Nat → Nat → Nat → List Nat
  | 0, _, _ => []
  | n + 1, left, a => pfst (fstT S P n left a) 0 P :: Rt S P n (left ^^^ 2 ^ pfst (fstT S P n left a) 0 P) (pfst (fstT S P n left a) 0 P)
theorem dst_le {S : Nat → Int32} {g : Nat → Nat} {left a : Nat} : ∀ c k acc, pfor (dst S g left a) k c acc ≤ acc ∧ ∀ q, k ≤ q → q < k + c → left.testBit q = true → pfor (dst S g left a) k c acc ≤ frN S a q + g q := by
  intro c
  induction c with
  | zero => intro k acc; exact ⟨Nat.le_refl _, fun q h1 h2 => by omega⟩
  | succ c ih =>
    intro k acc
    rw [pfor]
    obtain ⟨i1, i2⟩ := ih (k + 1) (dst S g left a k acc)
    have hle : dst S g left a k acc ≤ acc := by unfold dst; split <;> omega
    refine ⟨by omega, fun q h1 h2 h3 => ?_⟩
    by_cases e : q = k
    · subst e
      have : dst S g left a q acc ≤ frN S a q + g q := by unfold dst; rw [if_pos h3]; omega
      omega
    · exact i2 q (by omega) (by omega) h3
theorem Dt_le {S : Nat → Int32} {P N : Nat} (hP : P ≤ 7) (hW : wSt S P N) : ∀ n left a, a < P → left < 2 ^ P → popc left = n → Dt S P n left a ≤ 40 * n := by
  have h128 : 2 ^ P ≤ 2 ^ 7 := Nat.pow_le_pow_right (by omega) hP
  intro n
  induction n with
  | zero => intro left a _ _ _; exact Nat.le_refl _
  | succ n ih =>
    intro left a ha hl hp
    obtain ⟨q, hq, hb⟩ := bit_one left (by omega) (by omega)
    obtain ⟨-, o2, o3⟩ := bit_off left (by omega) q hq hb
    have hqP : q < P := by
      rcases Nat.lt_or_ge q P with e | e
      · exact e
      · have := Nat.testBit_lt_two_pow (Nat.lt_of_lt_of_le hl (Nat.pow_le_pow_right (by omega) e) : left < 2 ^ q)
        rw [this] at hb; cases hb
    have h1 := (dst_le (S := S) (g := fun q => Dt S P n (left ^^^ 2 ^ q) q) (left := left) (a := a) P 0 1000000).2 q (by omega) (by omega) hb
    have h2 := ih (left ^^^ 2 ^ q) q hqP (by omega) (by omega)
    have h3 := (frN_eq hW ha hqP).2
    show pfor _ 0 P 1000000 ≤ _
    have h1 : pfor (dst S (fun q => Dt S P n (left ^^^ 2 ^ q) q) left a) 0 P 1000000 ≤ frN S a q + Dt S P n (left ^^^ 2 ^ q) q := h1
    omega
theorem bit_P {left q P : Nat} (hl : left < 2 ^ P) (hb : left.testBit q = true) : q < P := by
  rcases Nat.lt_or_ge q P with e | e
  · exact e
  · have := Nat.testBit_lt_two_pow (Nat.lt_of_lt_of_le hl (Nat.pow_le_pow_right (by omega) e) : left < 2 ^ q)
    rw [this] at hb; cases hb
theorem dst_ex {S : Nat → Int32} {g : Nat → Nat} {left a : Nat} : ∀ c k acc, pfor (dst S g left a) k c acc = acc ∨ ∃ q, k ≤ q ∧ q < k + c ∧ left.testBit q = true ∧ frN S a q + g q = pfor (dst S g left a) k c acc := by
  intro c
  induction c with
  | zero => intro k a; exact Or.inl rfl
  | succ c ih =>
    intro k acc
    rw [pfor]
    rcases ih (k + 1) (dst S g left a k acc) with h | ⟨q, h1, h2, h3, h4⟩
    · rw [h]
      unfold dst
      rcases Bool.eq_false_or_eq_true (left.testBit k) with e | e
      · rw [e, if_pos rfl]
        rcases Nat.le_total acc (frN S a k + g k) with hm | hm
        · exact Or.inl (Nat.min_eq_left hm)
        · exact Or.inr ⟨k, Nat.le_refl _, by omega, e, (Nat.min_eq_right hm).symm⟩
      · rw [e]; exact Or.inl rfl
    · exact Or.inr ⟨q, by omega, by omega, h3, h4⟩
theorem fstT_lt {S : Nat → Int32} {P N n left a : Nat} (hP : P ≤ 7) (hW : wSt S P N) (ha : a < P) (hl : left < 2 ^ P) (hp : popc left = n + 1) : pfst (fstT S P n left a) 0 P < P ∧ left.testBit (pfst (fstT S P n left a) 0 P) = true := by
  have hlt : pfst (fstT S P n left a) 0 P < P := by
    rcases dst_ex (S := S) (g := fun q => Dt S P n (left ^^^ 2 ^ q) q) (left := left) (a := a) P 0 1000000 with e | ⟨q, q1, q2, q3, q4⟩
    · have h1 := Dt_le hP hW (n + 1) left a ha hl hp
      have h2 : Dt S P (n + 1) left a = 1000000 := e
      have h128 : 2 ^ P ≤ 2 ^ 7 := Nat.pow_le_pow_right (by omega) hP
      have := bit_pop left (by omega)
      omega
    · have hq : fstT S P n left a q = true := by
        unfold fstT
        rw [q3, Bool.true_and, decide_eq_true_eq]
        exact q4
      have := pfst_le (fstT S P n left a) P 0
      have hne : ¬ pfst (fstT S P n left a) 0 P = 0 + P := fun e => by
        have := (pfst_all (fstT S P n left a) P 0).mp e q (by omega) (by omega)
        rw [hq] at this; cases this
      omega
  have his := pfst_is (fstT S P n left a) P 0 (by omega)
  simp only [fstT, Bool.and_eq_true, decide_eq_true_eq] at his
  exact ⟨hlt, his.1⟩
/-! the class's methods -/
def tTab (S : Nat → Int32) (P t : Nat) (T : Nat → Int32) (b : Nat) : Prop := ∀ u, u < b → sub7 u t → ∀ a, a < P → T (u * 7 + a) = nI (Dt S P (popc u) u a)
theorem x_tourBy {P N left a q : Nat} {X : MM} {S : Nat → Int32} (hP : P ≤ 7) (hW : wSt S P N) (hR : rSt 29 X S P N) (hl : left < 128) (ha : a < P) (hq : q < P) (hb : left.testBit q = true) : fX6_tourBy (nI left) (nI a) (nI q) X = some (nI (frN S a q) + X.1 146 ((left ^^^ 2 ^ q) * 7 + q)) := by
  obtain ⟨o1, o2, -⟩ := bit_off left hl q (by omega) hb
  rw [fX6_tourBy, x_farBetween hR ha hq hP, (frN_eq hW ha hq).1]
  simp only [pb_bs]
  rw [o1, c7, nI_mul, nI_add, pb_gd (by omega) (by omega), nI_clamp (by omega)]
theorem x_leastT {P N left a t : Nat} {X : MM} {S : Nat → Int32} (hL : wLd S P N) (hW : wSt S P N) (hX : rLd X S P N) (hR : rSt 29 X S P N) (hl : left < 2 ^ P) (ha : a < P) (ht : sub7 left t) (hT : tTab S P t (X.1 146) left) : fX6_leastTour (nI left) (nI a) X = some (nI (Dt S P (popc left) left a)) := by
  have hP := hL.2.1
  have h128 : 2 ^ P ≤ 2 ^ 7 := Nat.pow_le_pow_right (by omega) hP
  have key : ∀ n, popc left = n + 1 → ∀ c q f acc, q + c = P → c < f → acc ≤ 1000000 → fX6_leastTour_15 (nI left) (nI a) X f (nI acc) (nI q) = some (nI (pfor (dst S (fun q => Dt S P n (left ^^^ 2 ^ q) q) left a) q c acc)) := by
    intro n hn c
    induction c with
    | zero =>
      intro q f acc hq hf _
      obtain ⟨f, rfl⟩ : ∃ z, f = z + 1 := ⟨f - 1, by omega⟩
      rw [fX6_leastTour_15, hX.1, hL.1, if_pos (nI_le (by omega) (by omega))]
      rfl
    | succ c ih =>
      intro q f acc hq hf hacc
      obtain ⟨f, rfl⟩ : ∃ z, f = z + 1 := ⟨f - 1, by omega⟩
      have hbt := bit_tst left (by omega) q (by omega)
      rw [fX6_leastTour_15, hX.1, hL.1, if_neg (nI_ge (by omega) (by omega)), pfor, nI_1]
      rcases Bool.eq_false_or_eq_true (left.testBit q) with e | e
      · obtain ⟨o1, o2, o3⟩ := bit_off left (by omega) q (by omega) e
        have hd := Dt_le hP hW n (left ^^^ 2 ^ q) q (by omega) (by omega) (by omega)
        have hf2 := (frN_eq hW ha (show q < P by omega)).2
        have hp := bit_pop left (by omega)
        rw [e, decide_eq_true_eq] at hbt
        have ed : dst S (fun q => Dt S P n (left ^^^ 2 ^ q) q) left a q acc = min acc (frN S a q + Dt S P n (left ^^^ 2 ^ q) q) := by unfold dst; rw [e, if_pos rfl]
        have eT := hT (left ^^^ 2 ^ q) o2 (sub7_off ht e) q (by omega)
        rw [show popc (left ^^^ 2 ^ q) = n by omega] at eT
        rw [if_pos hbt, x_tourBy hP hW hR (by omega) ha (by omega) e, eT]
        simp only [pb_bs]
        rw [nI_add, x_min (by omega) (by omega), ed]
        exact ih (q + 1) f _ (by omega) (by omega) (by omega)
      · rw [e, decide_eq_false_iff_not] at hbt
        have ed : dst S (fun q => Dt S P n (left ^^^ 2 ^ q) q) left a q acc = acc := by unfold dst; rw [e]; rfl
        rw [if_neg hbt, ed]
        exact ih (q + 1) f _ (by omega) (by omega) hacc
  rw [fX6_leastTour]
  by_cases e : left = 0
  · subst e
    rw [if_pos (show nI 0 = 0 from rfl)]
    have k0 : ∀ c q f, q + c = P → c < f → fX6_leastTour_15 (nI 0) (nI a) X f 0 (nI q) = some 0 := by
      intro c
      induction c with
      | zero =>
        intro q f hq hf
        obtain ⟨f, rfl⟩ : ∃ z, f = z + 1 := ⟨f - 1, by omega⟩
        rw [fX6_leastTour_15, hX.1, hL.1, if_pos (nI_le (by omega) (by omega))]
      | succ c ih =>
        intro q f hq hf
        obtain ⟨f, rfl⟩ : ∃ z, f = z + 1 := ⟨f - 1, by omega⟩
        have hbt := bit_tst 0 (by omega) q (by omega)
        rw [Nat.zero_testBit, decide_eq_false_iff_not] at hbt
        rw [fX6_leastTour_15, hX.1, hL.1, if_neg (nI_ge (by omega) (by omega)), if_neg hbt, nI_1]
        exact ih (q + 1) f (by omega) (by omega)
    have := k0 P 0 mx_fu (by omega) (by unfold mx_fu; omega)
    rw [nI_0] at this
    rw [nI_0, this]
    rfl
  · rw [if_neg (nI_ne0 (by omega) (by omega))]
    have hp := bit_pop left (by omega)
    have hp0 := popc_0 left (by omega)
    have := key (popc left - 1) (by omega) P 0 mx_fu 1000000 (by omega) (by unfold mx_fu; omega) (Nat.le_refl _)
    rw [nI_0] at this
    rw [c1000000, this]
    obtain ⟨n, hn⟩ : ∃ n, popc left = n + 1 := ⟨popc left - 1, by omega⟩
    rw [hn]
    rfl
theorem x_29 {P N left t : Nat} {X : MM} {S : Nat → Int32} {i2 i3 : Int32} {k9 : Int32 → MM → Option (Int32 × MM)} (hL : wLd S P N) (hW : wSt S P N) (hX : rLd X S P N) (hR : rSt 29 X S P N) (hl : left < 2 ^ P) (ht : sub7 left t) : ∀ c a f T, a + c = P → c < f → tTab S P t T left → (∀ b, b < a → T (left * 7 + b) = nI (Dt S P (popc left) left b)) → ∃ T', fX6_planTour_29 i2 i3 k9 f (nI left) (nI a) (sR 146 X T) = k9 (nI (left + 1)) (sR 146 X T') ∧ tTab S P t T' (left + 1) := by
  have hP := hL.2.1
  have h128 : 2 ^ P ≤ 2 ^ 7 := Nat.pow_le_pow_right (by omega) hP
  intro c
  induction c with
  | zero =>
    intro a f T ha hf hT hb
    obtain ⟨f, rfl⟩ : ∃ z, f = z + 1 := ⟨f - 1, by omega⟩
    refine ⟨T, ?_, fun u hu hs b hb' => ?_⟩
    · rw [fX6_planTour_29, sR_n (by omega), hX.1, hL.1, if_pos (nI_le (by omega) (by omega)), nI_1]
    · by_cases e : u = left
      · subst e; exact hb b (by omega)
      · exact hT u (by omega) hs b hb'
  | succ c ih =>
    intro a f T ha hf hT hb
    obtain ⟨f, rfl⟩ : ∃ z, f = z + 1 := ⟨f - 1, by omega⟩
    have hX' : rLd (sR 146 X T) S P N := rLd_sR (by omega) hL hX
    have hR' : rSt 29 (sR 146 X T) S P N := rSt_fr (fun k _ _ => sR_n (by omega)) hR
    rw [fX6_planTour_29, sR_n (by omega), hX.1, hL.1, if_neg (nI_ge (by omega) (by omega)), x_leastT hL hW hX' hR' hl (show a < P by omega) ht (by rw [sR_c]; exact hT)]
    simp only [pb_bs]
    rw [c7, nI_mul, nI_add, pb_gd (by omega) (by omega), nI_clamp (by omega), sR_i, nI_1]
    refine ih (a + 1) f _ (by omega) (by omega) (fun u hu hs b hb' => ?_) (fun b hb' => ?_)
    · rw [pk_un (by omega)]; exact hT u hu hs b hb'
    · by_cases e : b = a
      · subst e; rw [pk_us]
      · rw [pk_un (by omega)]; exact hb b (by omega)
theorem x_9 {P N t : Nat} {X : MM} {S : Nat → Int32} {i2 : Int32} (hL : wLd S P N) (hW : wSt S P N) (hX : rLd X S P N) (hR : rSt 29 X S P N) (ht : t < 2 ^ P) : ∀ c left f T, left + c = 128 → c < f → tTab S P t T left → ∃ T', fX6_planTour_9 i2 (nI t) f (nI left) (sR 146 X T) = fX6_planTour_9 i2 (nI t) 1 (nI 128) (sR 146 X T') ∧ tTab S P t T' 128 := by
  have hP := hL.2.1
  have h128 : 2 ^ P ≤ 2 ^ 7 := Nat.pow_le_pow_right (by omega) hP
  intro c
  induction c with
  | zero =>
    intro left f T hl hf hT
    obtain ⟨f, rfl⟩ : ∃ z, f = z + 1 := ⟨f - 1, by omega⟩
    have : left = 128 := by omega
    subst this
    refine ⟨T, ?_, hT⟩
    rw [fX6_planTour_9, fX6_planTour_9, c128, if_pos (nI_le (by omega) (by omega)), if_pos (nI_le (by omega) (by omega))]
  | succ c ih =>
    intro left f T hl hf hT
    obtain ⟨f, rfl⟩ : ∃ z, f = z + 1 := ⟨f - 1, by omega⟩
    rw [fX6_planTour_9, c128, if_neg (nI_ge (by omega) (by omega))]
    by_cases e : sub7 left t
    · have hl2 : left < 2 ^ P := by
        rcases Nat.lt_or_ge left (2 ^ P) with x | x
        · exact x
        · exfalso
          obtain ⟨i, i1, i2⟩ := Nat.exists_ge_and_testBit_of_ge_two_pow x
          have := bit_P ht (e i i2)
          omega
      obtain ⟨T1, a1, a2⟩ := x_29 (i2 := i2) (i3 := nI t) (k9 := fX6_planTour_9 i2 (nI t) f) hL hW hX hR hl2 e P 0 mx_fu T (by omega) (by unfold mx_fu; omega) hT (fun b hb => by omega)
      rw [nI_0] at a1
      rw [if_pos ((sub_iff (by omega) (by omega)).mpr e), a1]
      exact ih (left + 1) f T1 (by omega) (by omega) a2
    · rw [if_neg (fun x => e ((sub_iff (by omega) (by omega)).mp x)), nI_1]
      refine ih (left + 1) f T (by omega) (by omega) (fun u hu hs => ?_)
      by_cases e2 : u = left
      · subst e2; exact absurd hs e
      · exact hT u (by omega) hs
theorem x_firstT {P N left a n t : Nat} {X : MM} {S : Nat → Int32} (hL : wLd S P N) (hW : wSt S P N) (hX : rLd X S P N) (hR : rSt 29 X S P N) (hl : left < 2 ^ P) (ha : a < P) (hp : popc left = n + 1) (ht : sub7 left t) (hT : tTab S P t (X.1 146) 128) : fX6_firstOfTour (nI left) (nI a) X = some (nI (pfst (fstT S P n left a) 0 P)) := by
  have hP := hL.2.1
  have h128 : 2 ^ P ≤ 2 ^ 7 := Nat.pow_le_pow_right (by omega) hP
  have key := loop_find (F := fun n k => fX6_firstOfTour_3 (nI left) (nI a) X n (nI k)) (f := fstT S P n left a) (N := P) (fin := fun k => some (nI k)) (fun f q hq => by
    show fX6_firstOfTour_3 (nI left) (nI a) X (f + 1) (nI q) = _
    have hbt := bit_tst left (by omega) q (by omega)
    have hp7 := bit_pop left (by omega)
    rw [fX6_firstOfTour_3, hX.1, hL.1, if_neg (nI_ge hq (by omega)), c7, nI_mul, nI_add, nI_1]
    simp only [pb_in (show left * 7 + a < 896 by omega) (show 896 ≤ 1000000 by omega), ↓reduceIte, nI_clamp (show left * 7 + a < 2 ^ 31 by omega), hT left (by omega) ht a ha]
    rcases Bool.eq_false_or_eq_true (left.testBit q) with e | e
    · obtain ⟨o1, o2, o3⟩ := bit_off left (by omega) q (by omega) e
      have hd := Dt_le hP hW n (left ^^^ 2 ^ q) q (by omega) (by omega) (by omega)
      have hd2 := Dt_le hP hW (n + 1) left a ha hl hp
      have hf2 := (frN_eq hW ha (show q < P by omega)).2
      have eT := hT (left ^^^ 2 ^ q) (by omega) (sub7_off ht e) q (by omega)
      rw [show popc (left ^^^ 2 ^ q) = n by omega] at eT
      rw [e, decide_eq_true_eq] at hbt
      rw [if_pos hbt, x_tourBy hP hW hR (by omega) ha (by omega) e, eT]
      simp only [pb_bs]
      rw [nI_add, hp]
      simp only [propext (nI_eq (a := frN S a q + Dt S P n (left ^^^ 2 ^ q) q) (b := Dt S P (n + 1) left a) (by omega) (by omega))]
      unfold fstT
      rw [e]
      simp
    · rw [e, decide_eq_false_iff_not] at hbt
      rw [if_neg hbt]
      unfold fstT
      rw [e]
      simp) P 0 mx_fu (by omega) (by unfold mx_fu; omega) (fstT_lt hP hW ha hl hp).1
  exact key
theorem x_follow {P N t : Nat} {X : MM} {S : Nat → Int32} {i2 i3 : Int32} (hL : wLd S P N) (hW : wSt S P N) (hX : rLd X S P N) (hR : rSt 29 X S P N) (hT : tTab S P t (X.1 146) 128) : ∀ n left a k f A, popc left = n → left < 2 ^ P → a < P → sub7 left t → k + n ≤ 7 → n < f → ∃ A', fX6_followTour_14 i2 i3 f (nI left) (nI a) (nI k) (mx_si (sR 144 X A) 143 1 (nI k)) = some (mx_si (sR 144 X A') 143 1 (nI (k + n))) ∧ (∀ j, j < k → A' j = A j) ∧ ∀ j x, (Rt S P n left a)[j]? = some x → A' (k + j) = nI x := by
  have hP := hL.2.1
  have h128 : 2 ^ P ≤ 2 ^ 7 := Nat.pow_le_pow_right (by omega) hP
  intro n
  induction n with
  | zero =>
    intro left a k f A hp hl ha hs hk hf
    obtain ⟨f, rfl⟩ : ∃ z, f = z + 1 := ⟨f - 1, by omega⟩
    have h0 := (popc_0 left (by omega)).mp hp
    subst h0
    refine ⟨A, ?_, fun _ _ => rfl, fun j x h => by simp [Rt] at h⟩
    rw [fX6_followTour_14, if_pos (show nI 0 = 0 from rfl)]
    split <;> rfl
  | succ n ih =>
    intro left a k f A hp hl ha hs hk hf
    obtain ⟨f, rfl⟩ : ∃ z, f = z + 1 := ⟨f - 1, by omega⟩
    have hne : left ≠ 0 := fun e => by
      subst e
      have : popc 0 = 0 := rfl
      omega
    obtain ⟨q1, q2⟩ := fstT_lt hP hW ha hl hp
    have hX' : rLd (mx_si (sR 144 X A) 143 1 (nI k)) S P N := by
      rw [← rLo_9]; exact rLo_fr (fun k a b => by rw [si_row (by omega), sR_n (by omega)]) hP hL.2.2.2.1 (fun _ _ => rfl) hX
    have hR' : rSt 29 (mx_si (sR 144 X A) 143 1 (nI k)) S P N := rSt_fr (fun k _ _ => by rw [si_row (by omega), sR_n (by omega)]) hR
    have hF := x_firstT (X := mx_si (sR 144 X A) 143 1 (nI k)) (t := t) hL hW hX' hR' hl ha hp hs (by rw [si_row (by omega), sR_n (by omega)]; exact hT)
    rw [fX6_followTour_14, c7, if_neg (nI_ge (by omega) (by omega)), if_neg (nI_ne0 (by omega) (by omega)), hF]
    simp only [pb_bs]
    have hRt : Rt S P (n + 1) left a = pfst (fstT S P n left a) 0 P :: Rt S P n (left ^^^ 2 ^ pfst (fstT S P n left a) 0 P) (pfst (fstT S P n left a) 0 P) := rfl
    rw [hRt]
    generalize pfst (fstT S P n left a) 0 P = q at q1 q2
    obtain ⟨o1, o2, o3⟩ := bit_off left (by omega) q (by omega) q2
    have em : mx_si (mx_si (mx_si (sR 144 X A) 143 1 (nI k)) 144 k (nI q)) 143 1 (nI (k + 1)) = mx_si (sR 144 X (upd A k (nI q))) 143 1 (nI (k + 1)) := by
      refine Prod.ext ?_ rfl
      funext c j
      simp only [mx_si, sR, upd]
      by_cases c1 : c = 143 ∧ j = 1
      · rw [if_pos c1, if_pos c1]
      · rw [if_neg c1, if_neg c1]
        by_cases c2 : c = 144
        · subst c2
          by_cases c3 : j = k <;> simp [c3]
        · simp [c2, c1]
    rw [pb_gd (by omega) (by omega), nI_clamp (by omega), si_nk (by omega), si_eq, nI_1, o1, em]
    obtain ⟨A', a1, a2, a3⟩ := ih (left ^^^ 2 ^ q) q (k + 1) f (upd A k (nI q)) (by omega) (by omega) q1 (sub7_off hs q2) (by omega) (by omega)
    refine ⟨A', ?_, fun j hj => ?_, fun j x hx => ?_⟩
    · rw [a1, show k + 1 + n = k + (n + 1) by omega]
    · rw [a2 j (by omega), pk_un (by omega)]
    · cases j with
      | zero =>
        simp at hx
        subst hx
        rw [Nat.add_zero, a2 k (by omega), pk_us]
      | succ j =>
        simp at hx
        have := a3 j x hx
        rw [show k + (j + 1) = k + 1 + j by omega]
        exact this
/-- whose rings he keeps, but his own -/
def otB (S : Nat → Int32) (p r : Nat) : Bool := sKeeps S (nI p) r && !decide (S (33 + r) = nI p)
def otS (S : Nat → Int32) (p : Nat) : Nat → Nat → Nat → Nat
  | 0, _, m => m
  | c + 1, r, m => otS S p c (r + 1) (if otB S p r then m ||| 2 ^ own S r else m)
theorem otS_lt {S : Nat → Int32} {P N p : Nat} (hL : wLd S P N) : ∀ c r m, r + c = N → m < 2 ^ P → otS S p c r m < 2 ^ P := by
  intro c
  induction c with
  | zero => intro r m _ h; exact h
  | succ c ih =>
    intro r m hr h
    rw [otS]
    refine ih (r + 1) _ (by omega) ?_
    split
    · exact Nat.or_lt_two_pow h (Nat.pow_lt_pow_right (by omega) (own_eq hL (show r < N by omega)).2)
    · exact h
theorem x_owners {P N p : Nat} {X : MM} {S : Nat → Int32} (hL : wLd S P N) (hX : rLd X S P N) (hR : rSt 29 X S P N) (hp : p < P) : fX6_ownersOfKept (nI p) X = some (nI (otS S p N 0 0)) := by
  have hP := hL.2.1
  have hN := hL.2.2.2.1
  have h128 : 2 ^ P ≤ 2 ^ 7 := Nat.pow_le_pow_right (by omega) hP
  have key : ∀ c r f m, r + c = N → c < f → m < 2 ^ P → fX6_ownersOfKept_4 (nI p) X f (nI m) (nI r) = some (nI (otS S p c r m)) := by
    intro c
    induction c with
    | zero =>
      intro r f m hr hf _
      obtain ⟨f, rfl⟩ : ∃ z, f = z + 1 := ⟨f - 1, by omega⟩
      rw [fX6_ownersOfKept_4, hX.2.1, hL.2.2.1, if_pos (nI_le (by omega) (by omega))]
      rfl
    | succ c ih =>
      intro r f m hr hf hm
      obtain ⟨f, rfl⟩ : ∃ z, f = z + 1 := ⟨f - 1, by omega⟩
      obtain ⟨e1, e2⟩ := own_eq hL (show r < N by omega)
      have h16 : X.1 16 r = nI (own S r) := by rw [(hX.2.2.2.2.2.2 r (by omega)).2.1, e1]
      obtain ⟨o1, o2⟩ := bit_or m (by omega) (own S r) (by omega)
      rw [fX6_ownersOfKept_4, hX.2.1, hL.2.2.1, if_neg (nI_ge (by omega) (by omega)), x_isKeptBy hR (by omega) hN]
      simp only [pb_bs]
      rw [pb_gd (by omega) (by omega), pb_gd (by omega) (by omega), nI_clamp (by omega), h16, o1, nI_1, otS]
      unfold otB
      rw [e1]
      cases sKeeps S (nI p) r
      · rw [if_pos b_f]; exact ih (r + 1) f m (by omega) (by omega) hm
      · rw [if_neg b_t]
        by_cases e : nI (own S r) = nI p
        · rw [if_pos e, e]
          simp only [decide_true, Bool.not_true, Bool.and_false, Bool.false_eq_true, ↓reduceIte]
          exact ih (r + 1) f m (by omega) (by omega) hm
        · rw [if_neg e]
          simp only [e, decide_false, Bool.not_false, Bool.and_self, ↓reduceIte]
          exact ih (r + 1) f _ (by omega) (by omega) (Nat.or_lt_two_pow hm (Nat.pow_lt_pow_right (by omega) e2))
  have := key N 0 mx_fu 0 (by omega) (by unfold mx_fu; omega) (Nat.two_pow_pos P)
  rw [nI_0] at this
  exact this
theorem x_planTour {P N p : Nat} {X : MM} {S : Nat → Int32} (hL : wLd S P N) (hW : wSt S P N) (hX : rLd X S P N) (hR : rSt 29 X S P N) (hp : p < P) : ∃ T A, fX6_planTour (nI p) X = some (nI (Dt S P (popc (otS S p N 0 0)) (otS S p N 0 0) p), mx_si (sR 144 (sR 146 X T) A) 143 1 (nI (popc (otS S p N 0 0)))) ∧ ∀ j x, (Rt S P (popc (otS S p N 0 0)) (otS S p N 0 0) p)[j]? = some x → A j = nI x := by
  have hP := hL.2.1
  have hN := hL.2.2.2.1
  have h128 : 2 ^ P ≤ 2 ^ 7 := Nat.pow_le_pow_right (by omega) hP
  have ht := otS_lt (p := p) hL N 0 0 (by omega) (Nat.two_pow_pos P)
  generalize hg : otS S p N 0 0 = t at ht
  have hx := x_owners hL hX hR hp
  rw [hg] at hx
  obtain ⟨T, a1, a2⟩ := x_9 (t := t) (i2 := nI p) hL hW hX hR ht 128 0 mx_fu (X.1 146) (by omega) (by unfold mx_fu; omega) (fun u hu => by omega)
  rw [sR_self, nI_0] at a1
  have hp7 := bit_pop t (by omega)
  obtain ⟨A, b1, b2, b3⟩ := x_follow (X := sR 146 X T) (t := t) (i2 := nI t) (i3 := nI p) hL hW (rLd_sR (by omega) hL hX) (rSt_fr (fun k _ _ => sR_n (by omega)) hR) (by rw [sR_c]; exact a2) (popc t) t p 0 mx_fu ((sR 146 X T).1 144) rfl ht hp (fun r h => h) (by omega) (by unfold mx_fu; omega)
  rw [sR_self, nI_0, Nat.zero_add] at b1
  refine ⟨T, A, ?_, fun j x h => by have := b3 j x h; rw [Nat.zero_add] at this; exact this⟩
  rw [fX6_planTour, hx]
  simp only [pb_bs]
  rw [a1, fX6_planTour_9, c128, if_pos (nI_le (by omega) (by omega)), fX6_followTour, b1]
  simp only [pb_bs]
  rw [c7, nI_mul, nI_add, pb_gd (by omega) (by omega), nI_clamp (by omega), si_nk (by omega), sR_n (by omega), sR_c, a2 t (by omega) (fun r h => h) p hp]
