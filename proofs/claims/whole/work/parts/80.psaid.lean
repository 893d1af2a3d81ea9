/-! said -/
def cmpS (s v n : Int32) : Bool := if s = 60 then !decide (n ≤ v) else if s = 61 then decide (v = n) else !decide (v ≤ n)
theorem x_compares {i : Nat} {v : Int32} {X : MM} (hi : i < 40) : fX8_compares v (nI i) X = some (cmpS (X.1 132 i) v (X.1 133 i)) := by
  rw [fX8_compares, nI_clamp (by omega)]
  simp only [pb_in hi (show 40 ≤ 1000000 by omega), ↓reduceIte]
  unfold cmpS
  by_cases h1 : X.1 132 i = 60
  · rw [if_pos h1, if_pos h1]
    by_cases h2 : X.1 133 i ≤ v <;> simp [h2]
  · rw [if_neg h1, if_neg h1]
    by_cases h3 : X.1 132 i = 61
    · rw [if_pos h3, if_pos h3]
      by_cases h2 : v = X.1 133 i <;> simp [h2]
    · rw [if_neg h3, if_neg h3]
      by_cases h2 : v ≤ X.1 133 i <;> simp [h2]
theorem m_147 {i1 i2 s n v : Int32} {M : MM} : fX13_isLeaf_147 i1 i2 s n M v = some (cmpS s v n) := by
  rw [fX13_isLeaf_147]
  unfold cmpS
  by_cases h1 : s = 60
  · rw [if_pos h1, if_pos h1]
    by_cases h2 : n ≤ v <;> simp [h2]
  · rw [if_neg h1, if_neg h1]
    by_cases h3 : s = 61
    · rw [if_pos h3, if_pos h3]
      by_cases h2 : v = n <;> simp [h2]
    · rw [if_neg h3, if_neg h3]
      by_cases h2 : v ≤ n <;> simp [h2]
theorem leaf_eq {P N p i : Nat} {X Y : MM} {S : Nat → Int32} {c s n : Int32} {l : Nat} (hS : Y.1 2 = S) (hL : wLd S P N) (hW : wSt S P N) (hX : rLd X S P N) (hR : rSt 29 X S P N) (hp : p < P) (hi : i < 40) (hl : l ≤ 8) (hw : X.2.2 131 i = 15 + l) (hc : c = nI l) (hs : X.1 132 i = s) (hn : X.1 133 i = n) (h3 : l = 3 → ∃ r, r < N ∧ n = nI r) (h4 : l = 4 → ∃ q, q < P ∧ n = nI q) : ∃ v, fX8_isSo (nI p) (nI i) X = some v ∧ fX13_isLeaf (nI p) c s n Y = some v := by
  have hP := hL.2.1
  have hN := hL.2.2.2.1
  have hx1 : X.1 9 1 = nI N := hX.2.1.trans hL.2.2.1
  have hy1 : Y.1 2 1 = nI N := by rw [hS]; exact hL.2.2.1
  have hin : mx_in (nI i) 40 = true := pb_in hi (by omega)
  obtain ⟨g1, g2, g3, g4, g5⟩ := hR
  have hR : rSt 29 X S P N := ⟨g1, g2, g3, g4, g5⟩
  rw [fX8_isSo, fX13_isLeaf, nI_clamp (show i < 2 ^ 31 by omega), hw, hn, hc]
  simp only [hin, ↓reduceIte]
  rw [if_pos (show 15 + l < 24 by omega)]
  have hw5 : fX9_wornBy 29 (nI p) X = some (sWorn S N (nI p)) := x_wornBy hx1 hR hN
  have hw6 : fX13_wornBy (nI p) Y = some (sWorn S N (nI p)) := by rw [m_wornBy hN hy1, hS]
  have ho5 : fX3_ownedBy (nI p) X = some (sOwned S N (nI p)) := x_ownedBy hX hL.2.2.1 hN
  have ho6 : fX13_ownedBy (nI p) Y = some (sOwned S N (nI p)) := by rw [m_ownedBy hN hy1, hS]
  have hb6 : ∀ v, fX13_ringsBy (92 : Int32) v Y = some (sBy S N 92 v) := fun v => by rw [c92, m_ringsBy (by omega) hN hy1, hS]
  have hb5 : ∀ v, fX9_ringsThatWere 29 v X = some (sBy S N 92 v) := fun v => by
    rw [fX9_ringsThatWere, x_ringsWith (S := S) (row := 92) hx1 hN (fun r hr => (g5 r hr).2.1)]; rfl
  rcases (by omega : l = 0 ∨ l = 1 ∨ l = 2 ∨ l = 3 ∨ l = 4 ∨ l = 5 ∨ l = 6 ∨ l = 7 ∨ l = 8) with rfl | rfl | rfl | rfl | rfl | rfl | rfl | rfl | rfl
  · rw [if_pos (by decide), if_pos (by decide), hw5, hw6]
    simp only [pb_bs]
    simp only [sWorn_neg hN]
    by_cases e : sWorn S N (nI p) = -1
    · rw [if_pos e]; exact ⟨_, rfl, rfl⟩
    · rw [if_neg e]; exact ⟨_, rfl, rfl⟩
  · rw [if_neg (by decide), if_pos (by decide), if_neg (by decide), if_pos (by decide), fX8_isHappy, fX13_isHappy, ho5, ho6, hb5, hb6, hb6]
    simp only [pb_bs]
    rw [fX8_isHappy_24, fX8_isHappy_24, hb5]
    simp only [pb_bs]
    by_cases e : sOwned S N (nI p) &&& sBy S N 92 1 = 0
    · rw [if_pos e, if_pos e, if_pos b_f]; exact ⟨_, rfl, rfl⟩
    · rw [if_neg e, if_neg e, if_neg b_t]
      by_cases e2 : sOwned S N (nI p) &&& sBy S N 92 2 = 0
      · rw [if_pos e2]; exact ⟨_, rfl, rfl⟩
      · rw [if_neg e2]; exact ⟨_, rfl, rfl⟩
  · rw [if_neg (by decide), if_neg (by decide), if_pos (by decide), if_neg (by decide), if_neg (by decide), if_pos (by decide), ho5, ho6]
    simp only [pb_bs]
    by_cases e : sOwned S N (nI p) = 0
    · rw [if_pos e]; exact ⟨_, rfl, rfl⟩
    · rw [if_neg e]; exact ⟨_, rfl, rfl⟩
  · obtain ⟨r, hr, rfl⟩ := h3 rfl
    have e := rSt_hold hR hr hW p (by omega) hP
    have e3 : fX9_hasRing 29 (nI p) (nI r) X = some (sHas S (nI p) r) := by
      rw [fX9_hasRing, x_isRing hx1 hN, pb_in hr (by omega)]
      simp only [pb_bs]
      rw [if_neg b_t, pb_gd (show r < 7 by omega) (by omega), nI_clamp (show r < 2 ^ 31 by omega)]
      cases hc : sHas S (nI p) r with
      | true => rw [if_pos (e.mpr hc)]
      | false => rw [if_neg (fun k => absurd ((e.mp k).symm.trans hc) (by decide))]
    rw [if_neg (by decide), if_neg (by decide), if_neg (by decide), if_pos (by decide), e3]
    simp only [pb_bs]
    rw [if_neg (by decide), if_neg (by decide), if_neg (by decide), if_pos (by decide), m_has (by omega), hS]
    exact ⟨_, rfl, rfl⟩
  · obtain ⟨q, hq, rfl⟩ := h4 rfl
    rw [if_neg (by decide), if_neg (by decide), if_neg (by decide), if_neg (by decide), if_pos (by decide), if_neg (by decide), if_neg (by decide), if_neg (by decide), if_neg (by decide), if_pos (by decide), x_isBy (hX.1.trans hL.1) hR hW hp hq hP, m_farOf (by omega) (by omega), hS]
    simp only [pb_bs]
    by_cases e : sFar S p (S (57 + q)) (S (64 + q)) = 0
    · rw [if_pos e]; exact ⟨_, congrArg some (decide_eq_true e), rfl⟩
    · rw [if_neg e]; exact ⟨_, congrArg some (decide_eq_false e), rfl⟩
  · obtain ⟨m, k1, k2, -⟩ := pbits_nI (f := sKeeps S (nI p)) hN
    have k2 : sKept S N (nI p) = nI m := k2
    rw [if_neg (by decide), if_neg (by decide), if_neg (by decide), if_neg (by decide), if_neg (by decide), if_pos (by decide), if_neg (by decide), if_neg (by decide), if_neg (by decide), if_neg (by decide), if_neg (by decide), if_pos (by decide), x_keptBy hx1 hR hN, m_keptBy hN hy1, hS, k2]
    simp only [pb_bs]
    rw [x_bitCount k1, m_bits k1]
    simp only [pb_bs]
    rw [x_compares hi, m_147, hs, hn]
    exact ⟨_, rfl, rfl⟩
  · rw [if_neg (by decide), if_neg (by decide), if_neg (by decide), if_neg (by decide), if_neg (by decide), if_neg (by decide), if_pos (by decide), pb_gd (show p < 7 by omega) (by omega), nI_clamp (show p < 2 ^ 31 by omega), if_neg (by decide), if_neg (by decide), if_neg (by decide), if_neg (by decide), if_neg (by decide), if_neg (by decide), if_pos (by decide), c71, nI_add, pb_gd (show 71 + p < 294 by omega) (by omega), nI_clamp (by omega), x_compares hi, m_147, hs, hn, hS]
    have e : X.1 32 p = S (71 + p) := (g4 p hp).2.2
    rw [e]
    exact ⟨_, rfl, rfl⟩
  · rw [if_neg (by decide), if_neg (by decide), if_neg (by decide), if_neg (by decide), if_neg (by decide), if_neg (by decide), if_neg (by decide), if_pos (by decide), pb_gd (show p < 7 by omega) (by omega), nI_clamp (show p < 2 ^ 31 by omega), if_neg (by decide), if_neg (by decide), if_neg (by decide), if_neg (by decide), if_neg (by decide), if_neg (by decide), if_neg (by decide), if_pos (by decide), c19, nI_add, pb_gd (show 19 + p < 294 by omega) (by omega), nI_clamp (by omega), x_compares hi, m_147, hs, hn, hS]
    have e : X.1 13 p = S (19 + p) := (hX.2.2.2.2.2.1 p hp).2.2
    rw [e]
    exact ⟨_, rfl, rfl⟩
  · rw [if_neg (by decide), if_neg (by decide), if_neg (by decide), if_neg (by decide), if_neg (by decide), if_neg (by decide), if_neg (by decide), if_neg (by decide), if_pos (by decide), if_neg (by decide), if_neg (by decide), if_neg (by decide), if_neg (by decide), if_neg (by decide), if_neg (by decide), if_neg (by decide), if_neg (by decide), x_compares hi, m_147, hs, hn]
    exact ⟨_, rfl, rfl⟩
/-! the truths that wait -/
def rB (x : Int64) (L : List Bool) : Prop := ∀ i, x.toBitVec.getLsbD i = L.getD i false
theorem one_bit (i : Nat) : (1 : Int64).toBitVec.getLsbD i = decide (i = 0) := by
  show (BitVec.ofNat 64 1).getLsbD i = _
  rw [BitVec.getLsbD_ofNat]
  by_cases h : i = 0
  · subst h; rfl
  · have : Nat.testBit 1 i = false := by
      rw [show (1 : Nat) = 2 ^ 0 from rfl, Nat.testBit_two_pow]; simp; omega
    simp [this, h]
theorem zero_bit (i : Nat) : (0 : Int64).toBitVec.getLsbD i = false := by
  show (BitVec.ofNat 64 0).getLsbD i = _
  rw [BitVec.getLsbD_ofNat]; simp
theorem shr_bit {x : Int64} {s : Int32} {k : Nat} (hs : ((s.toInt64.toUInt64 &&& Int64.toUInt64 63).toBitVec % 64).toNat = k) (i : Nat) : (mx_lushr x s).toBitVec.getLsbD i = x.toBitVec.getLsbD (k + i) := by
  show (x.toBitVec >>> ((s.toInt64.toUInt64 &&& Int64.toUInt64 63).toBitVec % 64)).getLsbD i = _
  rw [BitVec.ushiftRight_eq', hs, BitVec.getLsbD_ushiftRight]
theorem shl_bit {x : Int64} (i : Nat) : (x <<< ((1 : Int32).toInt64 &&& 63)).toBitVec.getLsbD i = (decide (i < 64) && !decide (i < 1) && x.toBitVec.getLsbD (i - 1)) := by
  show (x.toBitVec <<< (((1 : Int32).toInt64 &&& 63).toBitVec.smod 64)).getLsbD i = _
  have : (((1 : Int32).toInt64 &&& 63).toBitVec.smod 64) = 1#64 := by decide
  rw [this, BitVec.shiftLeft_eq', BitVec.getLsbD_shiftLeft]
  rfl
theorem rB_not {x : Int64} {b : Bool} {L : List Bool} (h : rB x (b :: L)) : rB (x ^^^ (1 : Int64)) ((!b) :: L) := by
  intro i
  rw [Int64.toBitVec_xor, BitVec.getLsbD_xor, one_bit, h i]
  cases i with
  | zero => simp
  | succ i => simp
theorem rB_push {x : Int64} {b : Bool} {L : List Bool} (hL : L.length ≤ 50) (h : rB x L) : rB ((x <<< ((1 : Int32).toInt64 &&& 63)) ||| (if b then 1 else 0)) (b :: L) := by
  intro i
  rw [Int64.toBitVec_or, BitVec.getLsbD_or, shl_bit, h (i - 1)]
  have hb : (if b then (1 : Int64) else 0).toBitVec.getLsbD i = (b && decide (i = 0)) := by
    cases b
    · exact zero_bit i
    · rw [if_pos rfl, one_bit]; simp
  rw [hb]
  cases i with
  | zero => simp
  | succ i =>
    rw [List.getD_cons_succ, Nat.add_sub_cancel]
    by_cases e : i + 1 < 64
    · simp [e]
    · have : L.getD i false = false := by
        rw [List.getD_eq_getElem?_getD, List.getElem?_eq_none (by omega)]; rfl
      rw [this]; simp
theorem rB_and {x : Int64} {a b : Bool} {L : List Bool} (hL : L.length ≤ 50) (h : rB x (a :: b :: L)) : rB (((mx_lushr x (2 : Int32)) <<< ((1 : Int32).toInt64 &&& 63)) ||| ((x &&& (1 : Int64)) &&& ((mx_lushr x (1 : Int32)) &&& (1 : Int64)))) ((b && a) :: L) := by
  intro i
  rw [Int64.toBitVec_or, BitVec.getLsbD_or, shl_bit, shr_bit (k := 2) (by decide), Int64.toBitVec_and, BitVec.getLsbD_and, Int64.toBitVec_and, BitVec.getLsbD_and, Int64.toBitVec_and, BitVec.getLsbD_and, shr_bit (k := 1) (by decide), one_bit, h, h, h]
  cases i with
  | zero => simp [Bool.and_comm]
  | succ i =>
    rw [List.getD_cons_succ, Nat.add_sub_cancel, show 2 + i = i + 1 + 1 by omega, List.getD_cons_succ, List.getD_cons_succ]
    by_cases e : i + 1 < 64
    · simp [e]
    · have : L.getD i false = false := by
        rw [List.getD_eq_getElem?_getD, List.getElem?_eq_none (by omega)]; rfl
      simp only [List.getD_eq_getElem?_getD] at this
      simp [this]
theorem rB_or {x : Int64} {a b : Bool} {L : List Bool} (hL : L.length ≤ 50) (h : rB x (a :: b :: L)) : rB ((((mx_lushr x (2 : Int32)) <<< ((1 : Int32).toInt64 &&& 63)) ||| (x &&& (1 : Int64))) ||| ((mx_lushr x (1 : Int32)) &&& (1 : Int64))) ((b || a) :: L) := by
  intro i
  rw [Int64.toBitVec_or, BitVec.getLsbD_or, Int64.toBitVec_or, BitVec.getLsbD_or, shl_bit, shr_bit (k := 2) (by decide), Int64.toBitVec_and, BitVec.getLsbD_and, Int64.toBitVec_and, BitVec.getLsbD_and, shr_bit (k := 1) (by decide), one_bit, h, h, h]
  cases i with
  | zero => simp [Bool.or_comm]
  | succ i =>
    rw [List.getD_cons_succ, Nat.add_sub_cancel, show 2 + i = i + 1 + 1 by omega, List.getD_cons_succ, List.getD_cons_succ]
    by_cases e : i + 1 < 64
    · simp [e]
    · have : L.getD i false = false := by
        rw [List.getD_eq_getElem?_getD, List.getElem?_eq_none (by omega)]; rfl
      simp only [List.getD_eq_getElem?_getD] at this
      simp [this]
theorem lcmp0 {x y : Int64} : lg_cmp x y = 0 ↔ x = y := by
  unfold lg_cmp
  constructor
  · intro h
    split at h
    · cases h
    · split at h
      · assumption
      · cases h
  · intro h
    subst h
    rw [if_neg (by intro e; exact absurd e (Int64.lt_irrefl)), if_pos rfl]
theorem rB_top {x : Int64} {b : Bool} {L : List Bool} (h : rB x (b :: L)) : (lg_cmp (x &&& (1 : Int64)) (1 : Int64) = 0) = (b = true) := by
  apply propext
  rw [lcmp0]
  have h0 := h 0
  rw [List.getD_cons_zero] at h0
  constructor
  · intro e
    have : (x &&& (1 : Int64)).toBitVec.getLsbD 0 = true := by rw [e, one_bit]; rfl
    rw [Int64.toBitVec_and, BitVec.getLsbD_and, h0] at this
    simp at this
    exact this
  · intro e
    apply Int64.toBitVec_inj.mp
    apply BitVec.eq_of_getLsbD_eq
    intro i hi
    rw [Int64.toBitVec_and, BitVec.getLsbD_and, one_bit]
    by_cases e2 : i = 0
    · subst e2; rw [h0, e]; simp
    · simp [e2]
def rG (G : Nat → Int32) : List Bool → Prop
  | [] => True
  | b :: L => G L.length = mx_b b ∧ rG G L
theorem rG_up {G : Nat → Int32} {k : Nat} {v : Int32} : ∀ L : List Bool, L.length ≤ k → rG G L → rG (upd G k v) L := by
  intro L
  induction L with
  | nil => intro _ _; trivial
  | cons b L ih =>
    intro hk h
    rw [List.length_cons] at hk
    exact ⟨by rw [pk_un (by omega)]; exact h.1, ih (by omega) h.2⟩
theorem rG_push {G : Nat → Int32} {b : Bool} {L : List Bool} (h : rG G L) : rG (upd G L.length (mx_b b)) (b :: L) := ⟨pk_us, rG_up L (Nat.le_refl _) h⟩
theorem nar_b (b : Bool) : vp_nar .boolean (mx_b b) = mx_b b := by cases b <;> decide
theorem b_isb (b : Bool) : mx_isb (mx_b b) = true ∧ decide (mx_b b = 1) = b := by cases b <;> decide
/-- both go along the codes -/
theorem said_loop {P N p n : Nat} {X Y : MM} {S : Nat → Int32} (hS : Y.1 2 = S) (hL : wLd S P N) (hW : wSt S P N) (hX : rLd X S P N) (hR : rSt 29 X S P N) (hp : p < P) (hn : n ≤ 40) (x3 : X.1 130 3 = nI n) (s113 : S 113 = nI n) (hd : sDp S n = some 1) (hC : ∀ i, i < n → rC P N (X.2.2 131 i) (X.1 132 i) (X.1 133 i) (S (114 + 3 * i)) (S (115 + 3 * i)) (S (116 + 3 * i))) :
    ∀ c i f g x G L, i + c = n → c < f → c < g → sDp S i = some L.length → L.length ≤ i → rB x L → rG G L → ∃ v G', fX8_holdsOf_5 (nI p) X f x (nI i) = some v ∧ fX13_isSaid_4 (nI p) g (nI L.length) (nI i) (sR 18 Y G) = some (v, sR 18 Y G') := by
  intro c
  induction c with
  | zero =>
    intro i f g x G L hi hf hg hs hl hb hG
    obtain ⟨f, rfl⟩ : ∃ z, f = z + 1 := ⟨f - 1, by omega⟩
    obtain ⟨g, rfl⟩ : ∃ z, g = z + 1 := ⟨g - 1, by omega⟩
    have : i = n := by omega
    subst this
    rw [hd] at hs
    cases L with
    | nil => cases hs
    | cons b L =>
      have hL0 : L = [] := by
        have : (b :: L).length = 1 := (Option.some.inj hs).symm
        simp at this
        exact this
      subst hL0
      have hG0 : G 0 = mx_b b := hG.1
      refine ⟨b, G, ?_, ?_⟩
      · rw [fX8_holdsOf_5, x3, if_pos (nI_le (by omega) (by omega))]
        have := rB_top hb
        simp only [this]
        cases b <;> rfl
      · rw [fX13_isSaid_4, sR_n (by omega), hS, s113, if_pos (nI_le (by omega) (by omega)), sR_c, hG0, (b_isb b).1, if_pos rfl, (b_isb b).2]
  | succ c ih =>
    intro i f g x G L hi hf hg hs hl hb hG
    obtain ⟨f, rfl⟩ : ∃ z, f = z + 1 := ⟨f - 1, by omega⟩
    obtain ⟨g, rfl⟩ : ∃ z, g = z + 1 := ⟨g - 1, by omega⟩
    have hc := hC i (by omega)
    have h2 : (sR 18 Y G).1 2 = S := by rw [sR_n (by omega), hS]
    -- the next depth is there
    have hnx : ∃ d, sDp S (i + 1) = some d := by
      have hall : ∀ m, sDp S m = none → ∀ k, sDp S (m + k) = none := by
        intro m hm k
        induction k with
        | zero => exact hm
        | succ k ihk => rw [show m + (k + 1) = (m + k) + 1 by omega, sDp, ihk]; rfl
      cases e : sDp S (i + 1) with
      | none =>
        have := hall (i + 1) e c
        rw [show i + 1 + c = n by omega, hd] at this
        cases this
      | some d => exact ⟨d, rfl⟩
    obtain ⟨d, hnx⟩ := hnx
    have hdef : sDp S (i + 1) = (if S (114 + 3 * i) = 20 then if 1 ≤ L.length then some L.length else none else if S (114 + 3 * i) = 21 ∨ S (114 + 3 * i) = 22 then if 2 ≤ L.length then some (L.length - 1) else none else some (L.length + 1)) := by
      rw [sDp, hs]; rfl
    rw [fX8_holdsOf_5, x3, if_neg (nI_ge (by omega) (by omega)), if_pos (pb_in (show i < 40 by omega) (by omega)), nI_clamp (show i < 2 ^ 31 by omega), nI_1, fX13_isSaid_4, h2, s113, if_neg (nI_ge (by omega) (by omega))]
    simp only [c3, c114, nI_mul, nI_add, nI_1, show (2 : Int32) = nI 2 from rfl, pb_in (show 114 + 3 * i < 294 by omega) (show 294 ≤ 1000000 by omega), pb_in (show 114 + 3 * i + 1 < 294 by omega) (show 294 ≤ 1000000 by omega), pb_in (show 114 + 3 * i + 2 < 294 by omega) (show 294 ≤ 1000000 by omega), ↓reduceIte, nI_clamp (show 114 + 3 * i < 2 ^ 31 by omega), nI_clamp (show 114 + 3 * i + 1 < 2 ^ 31 by omega), nI_clamp (show 114 + 3 * i + 2 < 2 ^ 31 by omega)]
    obtain ⟨rc1, rc2, rc⟩ := hc
    rcases rc with ⟨l, l8, lw, lc, l3, l4, l5⟩ | ⟨lw, lc⟩ | ⟨lw, lc⟩ | ⟨lw, lc⟩
    · -- a leaf
      have n20 : ¬ S (114 + 3 * i) = 20 := by rw [lc]; exact fun e => by have := (nI_eq (a := l) (b := 20) (by omega) (by omega)).mp e; omega
      have n21 : ¬ S (114 + 3 * i) = 21 := by rw [lc]; exact fun e => by have := (nI_eq (a := l) (b := 21) (by omega) (by omega)).mp e; omega
      have n22 : ¬ S (114 + 3 * i) = 22 := by rw [lc]; exact fun e => by have := (nI_eq (a := l) (b := 22) (by omega) (by omega)).mp e; omega
      have hxs : ∀ l, l ≤ 8 → ¬ xsw (15 + l) = 11 ∧ ¬ xsw (15 + l) = 21 ∧ ¬ xsw (15 + l) = 22 := by
        intro l hl
        rcases (by omega : l = 0 ∨ l = 1 ∨ l = 2 ∨ l = 3 ∨ l = 4 ∨ l = 5 ∨ l = 6 ∨ l = 7 ∨ l = 8) with rfl | rfl | rfl | rfl | rfl | rfl | rfl | rfl | rfl <;> decide
      obtain ⟨x11, x21, x22⟩ := hxs l l8
      obtain ⟨v, v1, v2⟩ := leaf_eq (Y := sR 18 Y G) h2 hL hW hX hR hp (show i < 40 by omega) l8 lw lc rc1 rc2 (fun e => l3 e) (fun e => l4 e)
      rw [n20 |> if_neg, n21 |> if_neg, n22 |> if_neg, lw, if_pos (show 15 + l < 24 by omega), if_neg x11, if_neg x21, if_neg x22, v1]
      rw [show 114 + 3 * i + 1 = 115 + 3 * i by omega, show 114 + 3 * i + 2 = 116 + 3 * i by omega, v2]
      simp only [pb_bs]
      rw [pb_gd (show L.length < 45 by omega) (by omega), nI_clamp (by omega), nar_b, sR_i]
      rw [if_neg n20, if_neg (by rintro (e | e); exact n21 e; exact n22 e)] at hdef
      obtain ⟨v', G', w1, w2⟩ := ih (i + 1) f g ((x <<< ((1 : Int32).toInt64 &&& 63)) ||| (if v then 1 else 0)) (upd G L.length (mx_b v)) (v :: L) (by omega) (by omega) (by omega) (by rw [hdef, List.length_cons]) (by rw [List.length_cons]; omega) (rB_push (by omega) hb) (rG_push hG)
      refine ⟨v', G', ?_, w2⟩
      cases v
      · rw [if_pos b_f]; exact w1
      · rw [if_neg b_t]; exact w1
    · -- not
      rw [lc, if_pos rfl] at hdef
      cases L with
      | nil => rw [if_neg (by simp), hnx] at hdef; cases hdef
      | cons b L =>
        rw [if_pos (by simp)] at hdef
        rw [List.length_cons] at hl hdef
        have e1 : nI (L.length + 1) - (1 : Int32) = nI L.length := by rw [c1, pk_sub (by omega), Nat.add_sub_cancel]
        have hG0 : G L.length = mx_b b := hG.1
        rw [lc, lw, if_pos (by decide), if_pos (by decide), if_pos (by decide), List.length_cons, e1, pb_gd (show L.length < 45 by omega) (by omega), nI_clamp (show L.length < 2 ^ 31 by omega), sR_c, hG0, fX13_isSaid_58, fX13_isSaid_58, pb_gd (show L.length < 45 by omega) (by omega), pb_gd (show L.length < 45 by omega) (by omega), nI_clamp (show L.length < 2 ^ 31 by omega), nar_b, nar_b, sR_i, sR_i, nI_1]
        obtain ⟨v', G', w1, w2⟩ := ih (i + 1) f g (x ^^^ (1 : Int64)) (upd G L.length (mx_b (!b))) ((!b) :: L) (by omega) (by omega) (by omega) hdef (by rw [List.length_cons]; omega) (rB_not hb) (rG_push hG.2)
        rw [List.length_cons] at w2
        refine ⟨v', G', w1, ?_⟩
        cases b
        · rw [if_pos b_f]; exact w2
        · rw [if_neg b_t]; exact w2
    · -- &&
      rw [lc, if_neg (by decide), if_pos (by decide)] at hdef
      cases L with
      | nil => rw [if_neg (by simp), hnx] at hdef; cases hdef
      | cons a L =>
        cases L with
        | nil => rw [if_neg (by simp), hnx] at hdef; cases hdef
        | cons b L =>
          rw [if_pos (by simp)] at hdef
          simp only [List.length_cons] at hl hdef
          have e1 : nI (L.length + 1 + 1) + (-1 : Int32) = nI (L.length + 1) := pk_m1 _
          have e2 : nI (L.length + 1) - (1 : Int32) = nI L.length := by rw [c1, pk_sub (by omega), Nat.add_sub_cancel]
          have hGa : G (L.length + 1) = mx_b a := hG.1
          have hGb : G L.length = mx_b b := hG.2.1
          rw [lw, lc, if_pos (by decide), if_neg (by decide), if_pos (by decide), if_neg (by decide), if_pos (by decide), fX13_isSaid_86, pb_gd (show 114 + 3 * i < 294 by omega) (by omega), nI_clamp (show 114 + 3 * i < 2 ^ 31 by omega), h2, lc]
          rw [List.length_cons, List.length_cons, e1, e2]
          obtain ⟨v', G', w1, w2⟩ := ih (i + 1) f g _ (upd G L.length (mx_b (b && a))) ((b && a) :: L) (by omega) (by omega) (by omega) hdef (by rw [List.length_cons]; omega) (rB_and (by omega) hb) (rG_push hG.2.2)
          rw [List.length_cons] at w2
          refine ⟨v', G', w1, ?_⟩
          simp only [fX13_isSaid_132, fX13_isSaid_156, fX13_isSaid_161, pb_in (show L.length < 45 by omega) (show 45 ≤ 1000000 by omega), pb_in (show L.length + 1 < 45 by omega) (show 45 ≤ 1000000 by omega), ↓reduceIte, nI_clamp (show L.length < 2 ^ 31 by omega), nI_clamp (show L.length + 1 < 2 ^ 31 by omega), sR_c, hGa, hGb, nar_b, sR_i, nI_1]
          cases b
          · rw [if_pos b_f]; exact w2
          · cases a
            · rw [if_neg b_t, if_pos b_f]; exact w2
            · rw [if_neg b_t, if_neg b_t]; exact w2
    · -- ||
      rw [lc, if_neg (by decide), if_pos (by decide)] at hdef
      cases L with
      | nil => rw [if_neg (by simp), hnx] at hdef; cases hdef
      | cons a L =>
        cases L with
        | nil => rw [if_neg (by simp), hnx] at hdef; cases hdef
        | cons b L =>
          rw [if_pos (by simp)] at hdef
          simp only [List.length_cons] at hl hdef
          have e1 : nI (L.length + 1 + 1) + (-1 : Int32) = nI (L.length + 1) := pk_m1 _
          have e2 : nI (L.length + 1) - (1 : Int32) = nI L.length := by rw [c1, pk_sub (by omega), Nat.add_sub_cancel]
          have hGa : G (L.length + 1) = mx_b a := hG.1
          have hGb : G L.length = mx_b b := hG.2.1
          rw [lw, lc, if_pos (by decide), if_neg (by decide), if_neg (by decide), if_pos (by decide), if_neg (by decide), if_neg (by decide), if_pos (by decide), fX13_isSaid_86, pb_gd (show 114 + 3 * i < 294 by omega) (by omega), nI_clamp (show 114 + 3 * i < 2 ^ 31 by omega), h2, lc]
          rw [List.length_cons, List.length_cons, e1, e2]
          obtain ⟨v', G', w1, w2⟩ := ih (i + 1) f g _ (upd G L.length (mx_b (b || a))) ((b || a) :: L) (by omega) (by omega) (by omega) hdef (by rw [List.length_cons]; omega) (rB_or (by omega) hb) (rG_push hG.2.2)
          rw [List.length_cons] at w2
          refine ⟨v', G', w1, ?_⟩
          simp only [fX13_isSaid_132, fX13_isSaid_156, fX13_isSaid_161, pb_in (show L.length < 45 by omega) (show 45 ≤ 1000000 by omega), pb_in (show L.length + 1 < 45 by omega) (show 45 ≤ 1000000 by omega), ↓reduceIte, nI_clamp (show L.length < 2 ^ 31 by omega), nI_clamp (show L.length + 1 < 2 ^ 31 by omega), sR_c, hGa, hGb, nar_b, sR_i, nI_1]
          rw [if_neg (by decide)]
          cases b
          · cases a
            · rw [if_pos b_f, if_pos b_f]; exact w2
            · rw [if_pos b_f, if_neg b_t]; exact w2
          · rw [if_neg b_t]; exact w2
