/-! notes -/
def ntR (X Y : MM) (n : Nat) : Prop := X.1 152 1 = nI n ∧ Y.1 0 37 = nI n ∧ ∀ i, i < n → X.1 153 i = Y.1 15 i
def ntF (X X' Y Y' : MM) : Prop := (∀ k, k ≠ 152 → k ≠ 153 → X'.1 k = X.1 k) ∧ X'.2 = X.2 ∧ (∀ k, k ≠ 0 → k ≠ 15 → Y'.1 k = Y.1 k) ∧ (∀ j, j ≠ 37 → Y'.1 0 j = Y.1 0 j) ∧ Y'.2 = Y.2
theorem ntF.tr {X X1 X2 Y Y1 Y2 : MM} (a : ntF X X1 Y Y1) (b : ntF X1 X2 Y1 Y2) : ntF X X2 Y Y2 := ⟨fun k h1 h2 => (b.1 k h1 h2).trans (a.1 k h1 h2), b.2.1.trans a.2.1, fun k h1 h2 => (b.2.2.1 k h1 h2).trans (a.2.2.1 k h1 h2), fun j h => (b.2.2.2.1 j h).trans (a.2.2.2.1 j h), b.2.2.2.2.trans a.2.2.2.2⟩
theorem ntF.rf {X Y : MM} : ntF X X Y Y := ⟨fun _ _ _ => rfl, rfl, fun _ _ _ => rfl, fun _ _ => rfl, rfl⟩
theorem note1 {X Y : MM} {n : Nat} {c : Int32} (hn : n < 104) (h : ntR X Y n) : ∃ X' Y', fX4_add c X = some X' ∧ fX13_lays c Y = some Y' ∧ ntR X' Y' (n + 1) ∧ ntF X X' Y Y' := by
  obtain ⟨h1, h2, h3⟩ := h
  refine ⟨mx_si (mx_si X 153 n c.toInt8.toInt32.toInt8.toInt32) 152 1 (nI (n + 1)), mx_si (mx_si Y 15 n c.toInt8.toInt32.toInt8.toInt32) 0 37 (nI (n + 1)), ?_, ?_, ?_, ?_⟩
  · rw [fX4_add, h1, c128, if_neg (nI_ge (by omega) (by omega)), pb_gd (by omega) (by omega), nI_clamp (by omega), si_nk (by omega), h1, nI_1]
  · rw [fX13_lays, h2, pb_gd hn (by omega), nI_clamp (by omega), si_nk (by omega), h2, nI_1]
  · refine ⟨si_eq, si_eq, fun i hi => ?_⟩
    rw [si_nk (k := 152) (j := 1) (by omega), si_nk (k := 0) (j := 37) (by omega)]
    by_cases e : i = n
    · subst e; rw [si_eq, si_eq]
    · rw [si_nj e, si_nj e]; exact h3 i (by omega)
  · refine ⟨fun k k1 k2 => ?_, rfl, fun k k0 k1 => ?_, fun j hj => ?_, rfl⟩
    · rw [si_row k1, si_row k2]
    · rw [si_row k0, si_row k1]
    · rw [si_nj hj, si_nk (by omega)]
def apX : List Int32 → MM → Option MM
  | [], X => some X
  | c :: l, X => (fX4_add c X).bind fun X' => apX l X'
def apY : List Int32 → MM → Option MM
  | [], Y => some Y
  | c :: l, Y => (fX13_lays c Y).bind fun Y' => apY l Y'
theorem apX_app : ∀ (l m : List Int32) (X : MM), apX (l ++ m) X = (apX l X).bind fun X' => apX m X' := by
  intro l
  induction l with
  | nil => intro m X; rfl
  | cons c l ih =>
    intro m X
    rw [List.cons_append, apX, apX]
    cases fX4_add c X with
    | none => rfl
    | some X' => simp only [pb_bs]; exact ih m X'
theorem apY_app : ∀ (l m : List Int32) (X : MM), apY (l ++ m) X = (apY l X).bind fun X' => apY m X' := by
  intro l
  induction l with
  | nil => intro m X; rfl
  | cons c l ih =>
    intro m X
    rw [List.cons_append, apY, apY]
    cases fX13_lays c X with
    | none => rfl
    | some X' => simp only [pb_bs]; exact ih m X'
theorem ap_both : ∀ (l : List Int32) (X Y : MM) (n : Nat), n + l.length ≤ 104 → ntR X Y n → ∃ X' Y', apX l X = some X' ∧ apY l Y = some Y' ∧ ntR X' Y' (n + l.length) ∧ ntF X X' Y Y' := by
  intro l
  induction l with
  | nil => intro X Y n _ h; exact ⟨X, Y, rfl, rfl, h, ntF.rf⟩
  | cons c l ih =>
    intro X Y n hn h
    rw [List.length_cons] at hn
    obtain ⟨X1, Y1, a1, b1, r1, f1⟩ := note1 (c := c) (by omega) h
    obtain ⟨X2, Y2, a2, b2, r2, f2⟩ := ih X1 Y1 (n + 1) (by omega) r1
    refine ⟨X2, Y2, ?_, ?_, ?_, f1.tr f2⟩
    · rw [apX, a1]; simp only [pb_bs]; exact a2
    · rw [apY, b1]; simp only [pb_bs]; exact b2
    · rw [List.length_cons, show n + (l.length + 1) = n + 1 + l.length by omega]; exact r2
/-! the digits of names -/
def dA (a : Nat) : Nat → List Int32
  | 0 => []
  | k + 1 => if a / 32 ^ k % 32 = 0 then dA a k else ((97 : Int32) + nI (a / 32 ^ k % 32) - 1) :: dA a k
def dB (b : Nat) : Nat → List Int32
  | 0 => []
  | k + 1 => if b / 256 ^ k % 256 = 0 then dB b k else nI (b / 256 ^ k % 256) :: dB b k
theorem dA_len (a : Nat) : ∀ k, (dA a k).length ≤ k := by
  intro k
  induction k with
  | zero => exact Nat.le_refl _
  | succ k ih =>
    rw [dA]
    split
    · omega
    · rw [List.length_cons]; omega
theorem shA : ∀ k, k < 7 → (((nI (5 * k)).toInt64.toUInt64 &&& Int64.toUInt64 63).toBitVec % 64).toNat = 5 * k ∧ nI (5 * (k + 1)) + (-5 : Int32) = nI (5 * k) := by decide
theorem shB : ∀ k, k < 8 → (((nI (8 * k)).toInt64 &&& 63).toBitVec.smod 64).toNat = 8 * k ∧ nI (8 * (k + 1)) + (-8 : Int32) = nI (8 * k) := by decide
theorem x_name {a : Nat} (ha : a < 2 ^ 35) : ∀ (k f : Nat) (X : MM), k ≤ 7 → k < f → fX4_addName_3 (lN a) f (nI (5 * k) + (-5 : Int32)) X = apX (dA a k) X := by
  intro k
  induction k with
  | zero =>
    intro f X _ hf
    obtain ⟨f, rfl⟩ : ∃ z, f = z + 1 := ⟨f - 1, by omega⟩
    rw [fX4_addName_3, if_pos (by decide)]
    rfl
  | succ k ih =>
    intro f X hk hf
    obtain ⟨f, rfl⟩ : ∃ z, f = z + 1 := ⟨f - 1, by omega⟩
    obtain ⟨s1, s2⟩ := shA k (by omega)
    have ep : (2 : Nat) ^ (5 * k) = 32 ^ k := by rw [Nat.pow_mul]
    rw [s2, fX4_addName_3, if_neg (nI_pos (by omega)), digA ha s1, ep, dA]
    by_cases h0 : a / 32 ^ k % 32 = 0
    · rw [if_pos h0, h0, if_pos nI_0]
      exact ih f X (by omega) (by omega)
    · rw [if_neg h0, if_neg (nI_ne0 (by omega) (by omega)), apX]
      congr 1
      funext X'
      exact ih f X' (by omega) (by omega)
theorem x_addName {a : Nat} {X : MM} (ha : a < 2 ^ 35) : fX4_addName (lN a) X = apX (dA a 7) X := x_name ha 7 mx_fu X (by omega) (by unfold mx_fu; omega)
theorem m_name {b : Nat} (hb : b < 2 ^ 56) : ∀ (k f : Nat) (Y : MM), k ≤ 8 → k < f → fX13_spells_3 (lN b) f (nI (8 * k) + (-8 : Int32)) Y = apY (dB b k) Y := by
  intro k
  induction k with
  | zero =>
    intro f X _ hf
    obtain ⟨f, rfl⟩ : ∃ z, f = z + 1 := ⟨f - 1, by omega⟩
    rw [fX13_spells_3, if_pos (by decide)]
    rfl
  | succ k ih =>
    intro f X hk hf
    obtain ⟨f, rfl⟩ : ∃ z, f = z + 1 := ⟨f - 1, by omega⟩
    obtain ⟨s1, s2⟩ := shB k (by omega)
    have ep : (2 : Nat) ^ (8 * k) = 256 ^ k := by rw [Nat.pow_mul]
    have hlt : b / 256 ^ k % 256 < 256 := Nat.mod_lt _ (by omega)
    rw [s2, fX13_spells_3, if_neg (nI_pos (by omega)), digB hb s1, ep, dB, lN_i]
    have e0 : (0 : Int64) = lN 0 := rfl
    simp only [propext (lg_cmp_eq _ _), e0, propext (pk_lEQ (a := b / 256 ^ k % 256) (b := 0) (by omega) (by omega))]
    by_cases h0 : b / 256 ^ k % 256 = 0
    · rw [if_pos h0, if_pos h0]
      exact ih f X (by omega) (by omega)
    · rw [if_neg h0, if_neg h0, apY]
      congr 1
      funext X'
      exact ih f X' (by omega) (by omega)
theorem m_spells {b : Nat} {Y : MM} (hb : b < 2 ^ 56) : fX13_spells (lN b) Y = apY (dB b 8) Y := m_name hb 8 mx_fu Y (by omega) (by unfold mx_fu; omega)
theorem dAB {n a b : Nat} (hn : n ≤ 7) (h : enc n a b) : dB b 8 = dA a 7 := by
  have key : ∀ k, dB b k = dA a k := by
    intro k
    induction k with
    | zero => rfl
    | succ k ih =>
      obtain ⟨i1, i2⟩ := enc_dig n a b h k
      rw [dA, dB, ih]
      by_cases hk : k < n
      · obtain ⟨c, c1, c2, e1, e2⟩ := i1 hk
        rw [e1, e2, if_neg (by omega), if_neg (by omega)]
        congr 1
        have : ∀ c, c ≤ 26 → 1 ≤ c → nI (c + 96) = (97 : Int32) + nI c - 1 := by decide
        exact this c c2 c1
      · obtain ⟨e1, e2⟩ := i2 (by omega)
        rw [e1, e2, if_pos rfl, if_pos rfl]
  rw [dB, if_pos ((enc_dig n a b h 7).2 hn).2]
  exact key 7
/-! texts -/
def txt (w : Nat) : List Int32 := ([[32, 107, 101, 101, 112, 115, 32], [32, 102, 111, 114], [32, 119, 101, 97, 114, 115, 32]] : List (List Int32)).getD w []
theorem x_text {w : Nat} (hw : w < 3) : ∀ (c j f : Nat) (X : MM), j + c = xsn w → c < f → fX4_addText_2 w f (nI j) X = apX ((txt w).drop j) X := by
  have hl : ∀ w, w < 3 → (txt w).length = xsn w ∧ xsl w = nI (xsn w) ∧ xsn w ≤ 7 := by decide
  obtain ⟨l1, l2, l3⟩ := hl w hw
  intro c
  induction c with
  | zero =>
    intro j f X hj hf
    obtain ⟨f, rfl⟩ : ∃ z, f = z + 1 := ⟨f - 1, by omega⟩
    rw [fX4_addText_2, l2, if_pos (nI_le (by omega) (by omega)), List.drop_eq_nil_of_le (by omega)]
    rfl
  | succ c ih =>
    intro j f X hj hf
    obtain ⟨f, rfl⟩ : ∃ z, f = z + 1 := ⟨f - 1, by omega⟩
    rw [fX4_addText_2, l2, if_neg (nI_ge (by omega) (by omega)), pb_gd (by omega) (by omega), nI_clamp (by omega), List.drop_eq_getElem_cons (by omega), apX]
    have e : xsb w j = (txt w)[j]'(by omega) := by
      show (txt w).getD j 0 = _
      rw [List.getD_eq_getElem?_getD, List.getElem?_eq_getElem (by omega)]
      rfl
    rw [e, nI_1]
    congr 1
    funext X'
    exact ih (j + 1) f X' (by omega) (by omega)
theorem x_addText {w : Nat} {X : MM} (hw : w < 3) : fX4_addText w X = apX (txt w) X := by
  have h7 : ∀ w, w < 3 → xsn w ≤ 7 := by decide
  have := x_text hw (xsn w) 0 mx_fu X (by omega) (by have := h7 w hw; unfold mx_fu; omega)
  rw [List.drop_zero] at this
  exact this
theorem m_says {b : Nat} {Y : MM} (hb : b < 2 ^ 56) : fX13_says (lN b) Y = apY (32 :: dB b 8) Y := by
  rw [fX13_says, apY]
  congr 1
  funext Y'
  rw [m_spells hb]
  cases apY (dB b 8) Y' with
  | none => rfl
  | some z => rfl
theorem dB_keeps : dB 461262647411 8 = [107, 101, 101, 112, 115] := by decide +kernel
theorem dB_wears : dB 512801993331 8 = [119, 101, 97, 114, 115] := by decide +kernel
theorem dB_for : dB 6713202 8 = [102, 111, 114] := by decide +kernel
theorem rN_dig {x y : Int64} (h : rN x y) : ∃ l : List Int32, l.length ≤ 7 ∧ (∀ X, fX4_addName x X = apX l X) ∧ (∀ Y, fX13_spells y Y = apY l Y) ∧ ∀ Y, fX13_says y Y = apY (32 :: l) Y := by
  obtain ⟨n, a, b, hn, he, rfl, rfl⟩ := h
  obtain ⟨s1, s2⟩ := enc_sz hn he
  refine ⟨dA a 7, dA_len a 7, fun X => x_addName s1, fun Y => ?_, fun Y => ?_⟩
  · rw [m_spells s2, dAB hn he]
  · rw [m_says s2, dAB hn he]
/-- what the note's parts read -/
def ntI (X Y : MM) (P N : Nat) : Prop := X.1 9 1 = nI N ∧ Y.1 2 1 = nI N ∧ rNm 9 X (Y.2.1 5) P N ∧ (∀ r, r < N → ∃ a, a < P ∧ X.1 16 r = nI a ∧ Y.1 2 (33 + r) = nI a)
theorem ntI.fr {X X' Y Y' : MM} {P N : Nat} (h : ntI X Y P N) (f : ntF X X' Y Y') : ntI X' Y' P N := by
  obtain ⟨f1, f2, f3, f4, f5⟩ := f
  obtain ⟨h1, h2, h3, h4⟩ := h
  refine ⟨by rw [f1 9 (by omega) (by omega)]; exact h1, by rw [f3 2 (by omega) (by omega)]; exact h2, ⟨fun p hp => by rw [f2, f5]; exact h3.1 p hp, fun r hr => by rw [f2, f5]; exact h3.2 r hr⟩, fun r hr => ?_⟩
  rw [f1 16 (by omega) (by omega), f3 2 (by omega) (by omega)]
  exact h4 r hr
theorem note_loop {P N m q : Nat} {S : Nat → Int32} (hP : P ≤ 7) (hN : N ≤ 7) (hm : m < 128) (i : Int32) :
    ∀ (c k f g n : Nat) (X Y : MM), k + c = N → c < f → c < g → n + 8 * c + 14 ≤ 104 → ntR X Y n → ntI X Y P N → Y.1 2 = S → ∃ X' Y' n', n' ≤ 104 ∧ fX4_write_66 (nI q) (nI m) (sWorn S N (nI q)) f (nI k) X = some X' ∧ fX13_note_73 (nI q) (nI m) g (nI k) Y = some (nI n', Y') ∧ ntR X' Y' n' ∧ ntF X X' Y Y' := by
  intro c
  induction c with
  | zero =>
    intro k f g n X Y hk hf hg hn hR hI hS
    obtain ⟨f, rfl⟩ : ∃ z, f = z + 1 := ⟨f - 1, by omega⟩
    obtain ⟨g, rfl⟩ : ∃ z, g = z + 1 := ⟨g - 1, by omega⟩
    obtain ⟨i1, i2, i3, i4⟩ := id hI
    rw [fX4_write_66, fX13_note_73, i1, i2, if_pos (nI_le (by omega) (by omega)), if_pos (nI_le (by omega) (by omega)), m_wornBy hN i2, hS]
    simp only [pb_bs]
    have hneg := sWorn_neg (S := S) (N := N) (q := nI q) hN
    by_cases hw : sWorn S N (nI q) = -1
    · have h0 : sWorn S N (nI q) < 0 := by rw [hw]; decide
      rw [if_pos hw, if_pos h0, hR.2.1]
      exact ⟨X, Y, n, by omega, rfl, rfl, hR, ntF.rf⟩
    · have h0 : ¬ sWorn S N (nI q) < 0 := fun h => hw (hneg.mp h)
      obtain ⟨e1, e2, -, -⟩ := sWorn_is hN hw
      generalize hr : pfst (sWears S (nI q)) 0 N = r at e1 e2
      rw [if_neg hw, if_neg h0, x_addText (by omega), show (512801993331 : Int64) = lN 512801993331 from rfl, m_says (by decide), dB_wears]
      have et : txt 2 = (32 :: [119, 101, 97, 114, 115]) ++ [32] := rfl
      obtain ⟨l, l1, l2, l3, l4⟩ := rN_dig (i3.2 r e2)
      obtain ⟨X1, Y1, a1, b1, r1, f1⟩ := ap_both (32 :: [119, 101, 97, 114, 115]) X Y n (by simp; omega) hR
      simp only [List.length_cons, List.length_nil] at r1
      obtain ⟨X2, Y2, a2, b2, r2, f2⟩ := ap_both [32] X1 Y1 (n + 6) (by simp; omega) r1
      simp only [List.length_cons, List.length_nil] at r2
      obtain ⟨X3, Y3, a3, b3, r3, f3⟩ := ap_both l X2 Y2 (n + 6 + 1) (by omega) r2
      have f12 := f1.tr f2
      rw [et, apX_app, a1, b1]
      simp only [pb_bs]
      have hS1 : Y1.1 2 = S := (f1.2.2.1 2 (by omega) (by omega)).trans hS
      rw [a2, m_wornBy hN (by rw [f1.2.2.1 2 (by omega) (by omega)]; exact i2), hS1, e1]
      simp only [pb_bs]
      have eX : X2.2.1 14 r = X.2.1 14 r := by rw [f12.2.1]
      have eY : Y1.2.1 5 (7 + r) = Y.2.1 5 (7 + r) := by rw [f1.2.2.2.2]
      rw [pb_gd (by omega) (by omega), nI_clamp (by omega), eX, c7, nI_add, pb_gd (by omega) (by omega), nI_clamp (by omega), eY, l2, l4, a3, show (32 :: l) = [32] ++ l from rfl, apY_app, b2]
      simp only [pb_bs]
      rw [b3]
      simp only [pb_bs]
      rw [r3.2.1]
      exact ⟨X3, Y3, _, by omega, rfl, rfl, r3, f12.tr f3⟩
  | succ c ih =>
    intro k f g n X Y hk hf hg hn hR hI hS
    obtain ⟨f, rfl⟩ : ∃ z, f = z + 1 := ⟨f - 1, by omega⟩
    obtain ⟨g, rfl⟩ : ∃ z, g = z + 1 := ⟨g - 1, by omega⟩
    obtain ⟨i1, i2, i3, i4⟩ := id hI
    rw [fX4_write_66, fX13_note_73, i1, i2, if_neg (nI_ge (by omega) (by omega)), if_neg (nI_ge (by omega) (by omega)), m_bitOf hm (by omega)]
    simp only [pb_bs, nI_1]
    have ht := bit_tst m hm k (by omega)
    by_cases hb : m.testBit k = true
    · rw [hb] at ht ⊢
      have ht' : ((nI m >>> (nI k &&& 31)) &&& (1 : Int32)) = 1 := by simpa using ht
      obtain ⟨a, ha, ex, ey⟩ := i4 k (by omega)
      obtain ⟨l, l1, l2, l3, l4⟩ := rN_dig (i3.1 a ha)
      obtain ⟨X1, Y1, a1, b1, r1, f1⟩ := ap_both [32] X Y n (by simp; omega) hR
      simp only [List.length_cons, List.length_nil] at r1
      obtain ⟨X2, Y2, a2, b2, r2, f2⟩ := ap_both l X1 Y1 (n + 1) (by omega) r1
      have a1' : fX4_add (32 : Int32) X = some X1 := by
        rw [apX] at a1
        cases hq : fX4_add (32 : Int32) X with
        | none => rw [hq] at a1; cases a1
        | some z => rw [hq] at a1; exact a1
      rw [if_pos ht', if_neg b_t, a1', c33, nI_add, pb_gd (by omega) (by omega), nI_clamp (show 33 + k < 2 ^ 31 by omega), ey, pb_gd (by omega) (by omega), nI_clamp (show a < 2 ^ 31 by omega), l4, show (32 :: l) = [32] ++ l from rfl, apY_app, b1]
      simp only [pb_bs]
      have e16 : X1.1 16 k = nI a := by rw [f1.1 16 (by omega) (by omega)]; exact ex
      have e10 : X1.2.1 10 a = X.2.1 10 a := by rw [f1.2.1]
      rw [pb_gd (by omega) (by omega), nI_clamp (show k < 2 ^ 31 by omega), e16, pb_gd (by omega) (by omega), nI_clamp (show a < 2 ^ 31 by omega), e10, l2, a2, b2]
      simp only [pb_bs]
      have f12 := f1.tr f2
      obtain ⟨X3, Y3, n3, q1, q2, q3, q4, q5⟩ := ih (k + 1) f g (n + 1 + l.length) X2 Y2 (by omega) (by omega) (by omega) (by omega) r2 (hI.fr f12) ((f12.2.2.1 2 (by omega) (by omega)).trans hS)
      exact ⟨X3, Y3, n3, q1, q2, q3, q4, f12.tr q5⟩
    · have hb' : m.testBit k = false := by simpa using hb
      rw [hb'] at ht ⊢
      have ht' : ¬ ((nI m >>> (nI k &&& 31)) &&& (1 : Int32)) = 1 := by simpa using ht
      rw [if_neg ht', if_pos b_f]
      exact ih (k + 1) f g n X Y (by omega) (by omega) (by omega) (by omega) hR hI hS
theorem Inv.ntf {X X' Y Y' : MM} {P N : Nat} (h : Inv X Y P N) (hF : ntF X X' Y Y') (ht : rNt X' Y') : Inv X' Y' P N := by
  obtain ⟨f1, f2, f3, f4, f5⟩ := hF
  have hP := h.p7
  have hN := h.n7
  have e2 : Y'.1 2 = Y.1 2 := f3 2 (by omega) (by omega)
  refine ⟨by rw [e2]; exact h.ld, by rw [e2]; exact h.st, ?_, ?_, ?_, ?_, ?_, ?_, ?_, ?_, ?_, ?_, ht, ?_, ?_⟩
  · rw [e2, ← rLo_9]; exact rLo_fr (fun k a b => f1 k (by omega) (by omega)) hP hN (fun _ _ => rfl) h.rl
  · rw [e2]; exact rSt_fr (fun k a b => f1 k (by omega) (by omega)) h.rs
  · exact rPast_fr (fun k a b => f1 k (by omega) (by omega)) (by rw [f2]) (f3 7 (by omega) (by omega)) (f4 23 (by omega)) h.pa
  · exact rNm_fr (by rw [f2]) (by rw [f2]) hP hN (fun i _ => by rw [f5]) h.nm
  · rw [e2]; exact rSy_fr (f1 _ (by omega) (by omega)) (by rw [f2]) (f1 _ (by omega) (by omega)) (f1 _ (by omega) (by omega)) (fun _ _ => rfl) h.sy
  · exact rTp_fr (f1 _ (by omega) (by omega)) (f1 _ (by omega) (by omega)) (f4 2 (by omega)) (f3 1 (by omega) (by omega)) h.tp
  · rw [f1 0 (by omega) (by omega), f4 15 (by omega)]; exact h.ft
  · exact rIm_fr (fun j hj => f1 j (by omega) (by omega)) (fun j hj => by rw [f2]) (fun j hj => by rw [f2]) (f3 19 (by omega) (by omega)) (by rw [f5]) (f3 21 (by omega) (by omega)) h.im
  · exact rPl_fr (by rw [f1 143 (by omega) (by omega)]) (f1 _ (by omega) (by omega)) (f1 _ (by omega) (by omega)) (f4 26 (by omega)) (f3 10 (by omega) (by omega)) (f4 29 (by omega)) (f3 12 (by omega) (by omega)) h.pl
  · exact rFi_fr (f1 _ (by omega) (by omega)) (f4 32 (by omega)) (f4 30 (by omega)) (f4 31 (by omega)) h.fi
  · exact rBk_fr (fun j _ => by rw [f1 138 (by omega) (by omega)]) (f4 41 (by omega)) (f3 16 (by omega) (by omega)) h.bk
  · obtain ⟨a, b, c⟩ := h.rf
    refine ⟨fun k hk => ?_, fun i hi => ?_, fun k hk => ?_⟩
    · rw [f2]; exact a k hk
    · rw [f2]; exact b i hi
    · rw [f5]; exact c k hk
theorem q_note {X Y : MM} {P N : Nat} {i : Int32} (h : Inv X Y P N) : RW (fX12_note i X) (fX13_note i Y) := by
  have hP := h.p7
  have hN := h.n7
  rw [fX12_note, fX13_note, x_isPerson h.x0 hP, m_isPerson (th2.trans h.y0) hP]
  simp only [pb_bs]
  rcases in_cases i P (by omega) with hp | ⟨p, hp, rfl⟩
  · rw [hp, if_pos b_f, if_pos b_f]; exact ⟨_, _, _, rfl, rfl, P, N, h.th⟩
  rw [pb_in hp (by omega), if_neg b_t, if_neg b_t, fX4_write, x_keptBy h.x1 h.rs hN, x_wornBy h.x1 h.rs hN]
  have e2 : (mx_si (mx_si Y 0 0 (0 : Int32)) 0 37 (0 : Int32)).1 2 = Y.1 2 := by rw [si_row (by omega), si_row (by omega)]
  rw [m_keptBy hN (by rw [e2]; exact h.y1), e2]
  obtain ⟨m, hm, em, hb⟩ := pbits_nI (f := sKeeps (Y.1 2) (nI p)) hN
  have em' : sKept (Y.1 2) N (nI p) = nI m := em
  simp only [pb_bs]
  rw [em']
  generalize hY1 : mx_si (mx_si Y 0 0 (0 : Int32)) 0 37 (0 : Int32) = Y1 at e2 ⊢
  generalize hX1 : mx_si X 152 1 (0 : Int32) = X1
  have fF : ntF X X1 (mx_si Y 0 0 (0 : Int32)) Y1 := by
    rw [← hY1, ← hX1]
    exact ⟨fun k k1 k2 => si_row k1, rfl, fun k k0 k1 => si_row k0, fun j hj => si_nj hj, rfl⟩
  have r0 : ntR X1 Y1 0 := by
    rw [← hY1, ← hX1]
    exact ⟨si_eq, si_eq, fun i hi => by omega⟩
  have iI : ntI X1 Y1 P N := by
    refine ntI.fr (X := X) (Y := mx_si Y 0 0 (0 : Int32)) ⟨h.x1, th2.trans h.y1, h.nm, fun r hr => ?_⟩ fF
    obtain ⟨-, ⟨a, ha, ea⟩, -⟩ := h.ld.2.2.2.2.2.2.2.2 r hr
    exact ⟨a, ha, (h.rl.2.2.2.2.2.2 r hr).2.1.trans ea, th2.trans ea⟩
  rw [pb_gd (by omega) (by omega), pb_gd (by omega) (by omega), nI_clamp (by omega)]
  obtain ⟨l, l1, l2, l3, l4⟩ := rN_dig (iI.2.2.1.1 p hp)
  have ek : (461262647411 : Int64) = lN 461262647411 := rfl
  obtain ⟨X2, Y2, a2, b2, r2, f2⟩ := ap_both l X1 Y1 0 (by omega) r0
  rw [l2, l3, a2, b2]
  simp only [pb_bs]
  have hl7 := l1
  obtain ⟨X3, Y3, a3, b3, r3, f3⟩ := ap_both (32 :: [107, 101, 101, 112, 115]) X2 Y2 (0 + l.length) (by simp; omega) r2
  simp only [List.length_cons, List.length_nil] at r3
  obtain ⟨X4, Y4, a4, b4, r4, f4⟩ := ap_both [32] X3 Y3 _ (by simp; omega) r3
  simp only [List.length_cons, List.length_nil] at r4
  have b4' : fX13_lays (32 : Int32) Y3 = some Y4 := by
    rw [apY] at b4
    cases hq : fX13_lays (32 : Int32) Y3 with
    | none => rw [hq] at b4; cases b4
    | some z => rw [hq] at b4; exact b4
  have et : txt 0 = (32 :: [107, 101, 101, 112, 115]) ++ [32] := rfl
  rw [x_addText (by omega), et, apX_app, a3, ek, m_says (by decide), dB_keeps, b3]
  simp only [pb_bs]
  rw [a4, b4']
  simp only [pb_bs]
  rw [x_bitCount hm, m_bits hm]
  simp only [pb_bs]
  obtain ⟨X5, Y5, a5, b5, r5, f5⟩ := note1 (c := (48 : Int32) + nI (popc m)) (by omega) r4
  rw [a5, b5]
  simp only [pb_bs]
  have F5 : ntF X1 X5 Y1 Y5 := (((f2.tr f3).tr f4).tr f5)
  have fin : ∀ X6 Y6 n6, n6 + 8 * N + 14 ≤ 104 → ntR X6 Y6 n6 → ntF X1 X6 Y1 Y6 → RW ((fX4_write_66 (nI p) (nI m) (sWorn (Y.1 2) N (nI p)) mx_fu (0 : Int32) X6).bind fun q => some (q.1 152 1, q)) (fX13_note_73 (nI p) (nI m) mx_fu (0 : Int32) Y6) := by
    intro X6 Y6 n6 h6 r6 F6
    obtain ⟨X7, Y7, n7, c1, c2, c3, c4, c5⟩ := note_loop (S := Y.1 2) (q := p) hP hN hm 0 N 0 mx_fu mx_fu n6 X6 Y6 (by omega) (by unfold mx_fu; omega) (by unfold mx_fu; omega) h6 r6 (iI.fr F6) ((F6.2.2.1 2 (by omega) (by omega)).trans e2)
    rw [nI_0] at c2 c3
    rw [c2, c3]
    simp only [pb_bs]
    rw [c4.1]
    exact ⟨_, _, _, rfl, rfl, P, N, h.th.ntf ((fF.tr F6).tr c5) ⟨n7, c1, c4⟩⟩
  by_cases h0 : m = 0
  · subst h0
    rw [if_pos nI_0, if_pos nI_0]
    exact fin X5 Y5 _ (by omega) r5 F5
  · have hne := nI_ne0 (n := m) (by omega) (by omega)
    rw [if_neg hne, if_neg hne, x_addText (by omega), show (6713202 : Int64) = lN 6713202 from rfl, m_says (by decide), dB_for]
    obtain ⟨X6, Y6, a6, b6, r6, f6⟩ := ap_both (32 :: [102, 111, 114]) X5 Y5 _ (by simp; omega) r5
    have et1 : txt 1 = (32 :: [102, 111, 114]) := rfl
    rw [et1, a6, b6]
    simp only [pb_bs]
    simp only [List.length_cons, List.length_nil] at r6
    exact fin X6 Y6 _ (by omega) r6 (F5.tr f6)
