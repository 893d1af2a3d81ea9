/-! keepers -/
/-- a cell's row replaced -/
def sR (c : Nat) (M : MM) (F : Nat → Int32) : MM := (fun a b => if a = c then F b else M.1 a b, M.2)
theorem sR_c {c : Nat} {M : MM} {F : Nat → Int32} : (sR c M F).1 c = F := by funext b; simp [sR]
theorem sR_n {c a : Nat} {M : MM} {F : Nat → Int32} (h : a ≠ c) : (sR c M F).1 a = M.1 a := by funext b; simp [sR, h]
theorem sR_s {c : Nat} {M : MM} {F : Nat → Int32} : (sR c M F).2 = M.2 := rfl
theorem sR_i {c j : Nat} {M : MM} {F : Nat → Int32} {v : Int32} : mx_si (sR c M F) c j v = sR c M (upd F j v) := by
  refine Prod.ext ?_ rfl
  funext a b
  by_cases ha : a = c
  · subst ha; simp [sR, mx_si, upd]
  · simp [sR, mx_si, ha]
theorem sR_self {c : Nat} {M : MM} : sR c M (M.1 c) = M := by
  refine Prod.ext ?_ rfl
  funext a b
  by_cases ha : a = c
  · subst ha; simp [sR]
  · simp [sR, ha]
def frN (S : Nat → Int32) (q o : Nat) : Nat := (sFar S q (S (57 + o)) (S (64 + o))).toNatClampNeg
def own (S : Nat → Int32) (r : Nat) : Nat := (S (33 + r)).toNatClampNeg
theorem frN_eq {S : Nat → Int32} {P N q o : Nat} (hW : wSt S P N) (hq : q < P) (ho : o < P) : sFar S q (S (57 + o)) (S (64 + o)) = nI (frN S q o) ∧ frN S q o ≤ 40 := by
  obtain ⟨⟨a, ha, ea⟩, ⟨b, hb, eb⟩, -⟩ := hW.2.1 o ho
  obtain ⟨d, hd, ed⟩ := sFar_nI hW hq ha hb
  rw [← ea, ← eb] at ed
  have : frN S q o = d := by rw [frN, ed, nI_clamp (by omega)]
  rw [this]
  exact ⟨ed, hd⟩
theorem own_eq {S : Nat → Int32} {P N r : Nat} (hL : wLd S P N) (hr : r < N) : S (33 + r) = nI (own S r) ∧ own S r < P := by
  obtain ⟨-, hP, -, hN, -, -, -, -, hrr⟩ := hL
  obtain ⟨-, ⟨o, ho, eo⟩, -⟩ := hrr r hr
  have : own S r = o := by rw [own, eo, nI_clamp (by omega)]
  rw [this]
  exact ⟨eo, ho⟩
def okL (S : Nat → Int32) (r set q : Nat) : Bool := !set.testBit q && !decide (own S r = q)
def stL (S : Nat → Int32) (f : Nat → Nat) (r set q acc : Nat) : Nat := if okL S r set q then min acc (frN S q (own S r) + f (set ||| 2 ^ q)) else acc
def ckL (S : Nat → Int32) (P : Nat) : List Nat → Nat → Nat
  | [], _ => 0
  | r :: l, set => pfor (stL S (ckL S P l) r set) 0 P 1000000
theorem stL_le {S : Nat → Int32} {f : Nat → Nat} {r set : Nat} : ∀ c k a, pfor (stL S f r set) k c a ≤ a := by
  intro c
  induction c with
  | zero => intro k a; exact Nat.le_refl _
  | succ c ih =>
    intro k a
    rw [pfor]
    refine Nat.le_trans (ih (k + 1) _) ?_
    unfold stL
    split
    · exact Nat.min_le_left _ _
    · exact Nat.le_refl _
theorem ckL_le {S : Nat → Int32} {P : Nat} (l : List Nat) (set : Nat) : ckL S P l set ≤ 1000000 := by
  cases l with
  | nil => rw [ckL]; omega
  | cons r l => rw [ckL]; exact stL_le P 0 _
def notL (S : Nat → Int32) (r : Nat) : Bool := !decide (S (85 + r) = 2)
def tl (S : Nat → Int32) : Nat → Nat → List Nat
  | 0, _ => []
  | c + 1, r => if notL S r then r :: tl S c (r + 1) else tl S c (r + 1)
theorem bit_gt : ∀ m, m < 128 → ∀ r, r < 7 → m.testBit r = false → m < m ||| 2 ^ r := by decide +kernel
/-! the reference's table -/
theorem m_canKeep {r set q P N : Nat} {Y : MM} (hL : wLd (Y.1 2) P N) (hr : r < N) (hq : q < P) (hs : set < 128) : fX13_canKeep (nI r) (nI set) (nI q) Y = some (okL (Y.1 2) r set q) := by
  have hP := hL.2.1
  have hN := hL.2.2.2.1
  obtain ⟨e1, e2⟩ := own_eq hL hr
  rw [fX13_canKeep, m_bitOf hs (by omega), c33, nI_add]
  simp only [pb_bs]
  rw [pb_gd (by omega) (by omega), nI_clamp (by omega), e1, okL]
  simp only [propext (nI_eq (a := own (Y.1 2) r) (b := q) (by omega) (by omega)), pb_b0]
  by_cases a : set.testBit q = true <;> by_cases b : own (Y.1 2) r = q <;> simp [a, b]
theorem m_restBy {r set q P N : Nat} {Y : MM} (hL : wLd (Y.1 2) P N) (hW : wSt (Y.1 2) P N) (hr : r < N) (hq : q < P) (hs : set < 128) : fX13_restBy (nI r) (nI set) (nI q) Y = some (nI (frN (Y.1 2) q (own (Y.1 2) r)) + Y.1 11 (128 * (r + 1) + (set ||| 2 ^ q))) := by
  have hP := hL.2.1
  have hN := hL.2.2.2.1
  obtain ⟨e1, e2⟩ := own_eq hL hr
  obtain ⟨o1, o2⟩ := bit_or set hs q (by omega)
  rw [fX13_restBy, c33, nI_add, pb_gd (by omega) (by omega), nI_clamp (by omega), e1, m_farOf (by omega) (by omega), (frN_eq hW hq e2).1]
  simp only [pb_bs]
  rw [o1, nI_1, c128, nI_mul, nI_add, pb_gd (by omega) (by omega), nI_clamp (by omega)]
def kTab (S : Nat → Int32) (P N r : Nat) (F : Nat → Int32) : Prop := ∀ set, set < 128 → F (128 * r + set) = nI (ckL S P (tl S (N - r) r) set)
theorem x_min {a b : Nat} (ha : a < 2 ^ 31) (hb : b < 2 ^ 31) : (if nI b < nI a then nI b else nI a) = nI (min a b) := by
  simp only [pb_lt hb ha]
  split
  · rw [Nat.min_eq_right (by omega)]
  · rw [Nat.min_eq_left (by omega)]
theorem m_lesser {a b : Nat} {M : MM} (ha : a < 2 ^ 31) (hb : b < 2 ^ 31) : fX13_lesser (nI a) (nI b) M = some (nI (min a b)) := by
  rw [fX13_lesser]
  simp only [pb_le hb ha]
  split
  · rw [Nat.min_eq_right (by omega)]
  · rw [Nat.min_eq_left (by omega)]
theorem m_95 {i1 : Int32} {k50 : Int32 → Int32 → MM → Option (Int32 × MM)} {r set P N : Nat} {Y : MM} (hL : wLd (Y.1 2) P N) (hW : wSt (Y.1 2) P N) (hr : r < N) (hs : set < 128) (hT : kTab (Y.1 2) P N (r + 1) (Y.1 11)) (hn : notL (Y.1 2) r = true) :
    ∀ c k n acc, k + c = P → c < n → acc ≤ 1000000 → fX13_keepers_95 i1 (nI r) k50 n (nI set) (nI acc) (nI k) Y = k50 (nI r) (nI (set + 1)) (mx_si Y 11 (128 * r + set) (nI (pfor (stL (Y.1 2) (ckL (Y.1 2) P (tl (Y.1 2) (N - (r + 1)) (r + 1))) r set) k c acc))) := by
  have hP := hL.2.1
  have hN := hL.2.2.2.1
  have hn' : ¬ Y.1 2 (85 + r) = 2 := by simpa [notL] using hn
  intro c
  induction c with
  | zero =>
    intro k n acc hk hc ha
    obtain ⟨n, rfl⟩ : ∃ z, n = z + 1 := ⟨n - 1, by omega⟩
    rw [fX13_keepers_95, hL.1, if_pos (nI_le (by omega) (by omega)), c128, nI_mul, nI_add, pb_gd (by omega) (by omega), nI_clamp (by omega), nI_1]
    rfl
  | succ c ih =>
    intro k n acc hk hc ha
    obtain ⟨n, rfl⟩ : ∃ z, n = z + 1 := ⟨n - 1, by omega⟩
    obtain ⟨o1, o2⟩ := bit_or set hs k (by omega)
    have hle := ckL_le (S := Y.1 2) (P := P) (tl (Y.1 2) (N - (r + 1)) (r + 1)) (set ||| 2 ^ k)
    have hfr := (frN_eq hW (show k < P by omega) (own_eq hL hr).2).2
    rw [fX13_keepers_95, hL.1, if_neg (nI_ge (by omega) (by omega)), c85, nI_add, pb_gd (by omega) (by omega), nI_clamp (by omega), if_neg hn', m_canKeep hL hr (by omega) hs, m_restBy hL hW hr (by omega) hs, hT _ o2, nI_add, pfor, stL]
    simp only [pb_bs, nI_1]
    rw [m_lesser (by omega) (by omega)]
    simp only [pb_bs]
    rcases Bool.eq_false_or_eq_true (okL (Y.1 2) r set k) with h | h
    · rw [h, if_neg b_t, if_pos rfl]
      exact ih (k + 1) n _ (by omega) (by omega) (by omega)
    · rw [h, if_pos b_f, if_neg (by simp)]
      exact ih (k + 1) n _ (by omega) (by omega) (by omega)
theorem m_95l {i1 acc : Int32} {k50 : Int32 → Int32 → MM → Option (Int32 × MM)} {r set P N : Nat} {Y : MM} (hL : wLd (Y.1 2) P N) (hr : r < N) (hs : set < 128) (hn : notL (Y.1 2) r = false) :
    ∀ c k n, k + c = P → c < n → fX13_keepers_95 i1 (nI r) k50 n (nI set) acc (nI k) Y = k50 (nI r) (nI (set + 1)) (mx_si Y 11 (128 * r + set) acc) := by
  have hP := hL.2.1
  have hN := hL.2.2.2.1
  have hn' : Y.1 2 (85 + r) = 2 := by simpa [notL] using hn
  intro c
  induction c with
  | zero =>
    intro k n hk hc
    obtain ⟨n, rfl⟩ : ∃ z, n = z + 1 := ⟨n - 1, by omega⟩
    rw [fX13_keepers_95, hL.1, if_pos (nI_le (by omega) (by omega)), c128, nI_mul, nI_add, pb_gd (by omega) (by omega), nI_clamp (by omega), nI_1]
  | succ c ih =>
    intro k n hk hc
    obtain ⟨n, rfl⟩ : ∃ z, n = z + 1 := ⟨n - 1, by omega⟩
    rw [fX13_keepers_95, hL.1, if_neg (nI_ge (by omega) (by omega)), c85, nI_add, pb_gd (by omega) (by omega), nI_clamp (by omega), if_pos hn', nI_1]
    exact ih (k + 1) n (by omega) (by omega)
theorem m_50 {i1 : Int32} {k44 : Int32 → MM → Option (Int32 × MM)} {r P N : Nat} {Y : MM} {S : Nat → Int32} (hS : Y.1 2 = S) (hL : wLd S P N) (hW : wSt S P N) (hr : r < N) :
    ∀ c set n F, set + c = 128 → c < n → kTab S P N (r + 1) F → (∀ s, s < set → F (128 * r + s) = nI (ckL S P (tl S (N - r) r) s)) → ∃ F', fX13_keepers_50 i1 k44 n (nI r) (nI set) (sR 11 Y F) = k44 (nI r + (-1 : Int32)) (sR 11 Y F') ∧ kTab S P N r F' ∧ ∀ j, 128 * (r + 1) ≤ j → F' j = F j := by
  have hP := hL.2.1
  have hN := hL.2.2.2.1
  have hNr : N - r = (N - (r + 1)) + 1 := by omega
  intro c
  induction c with
  | zero =>
    intro set n F hs hn h1 h2
    obtain ⟨n, rfl⟩ : ∃ z, n = z + 1 := ⟨n - 1, by omega⟩
    refine ⟨F, ?_, fun s hs' => h2 s (by omega), fun _ _ => rfl⟩
    rw [fX13_keepers_50, c128, if_pos (nI_le (by omega) (by omega))]
  | succ c ih =>
    intro set n F hs hn h1 h2
    obtain ⟨n, rfl⟩ : ∃ z, n = z + 1 := ⟨n - 1, by omega⟩
    have e2 : (sR 11 Y F).1 2 = S := by rw [sR_n (by omega)]; exact hS
    have e11 : (sR 11 Y F).1 11 = F := sR_c
    have step : ∀ v, v = nI (ckL S P (tl S (N - r) r) set) → ∃ F', fX13_keepers_50 i1 k44 n (nI r) (nI (set + 1)) (sR 11 Y (upd F (128 * r + set) v)) = k44 (nI r + (-1 : Int32)) (sR 11 Y F') ∧ kTab S P N r F' ∧ ∀ j, 128 * (r + 1) ≤ j → F' j = F j := by
      intro v hv
      obtain ⟨F', a, b, d⟩ := ih (set + 1) n (upd F (128 * r + set) v) (by omega) (by omega) (fun s hs' => by rw [pk_un (by omega)]; exact h1 s hs') (fun s hs' => by
        by_cases e : s = set
        · subst e; rw [pk_us]; exact hv
        · rw [pk_un (by omega)]; exact h2 s (by omega))
      exact ⟨F', a, b, fun j hj => by rw [d j hj, pk_un (by omega)]⟩
    rw [fX13_keepers_50, c128, if_neg (nI_ge (by omega) (by omega)), c85, nI_add, pb_gd (by omega) (by omega), nI_clamp (by omega), e2]
    rcases Bool.eq_false_or_eq_true (notL S r) with hl | hl
    · have hl' : ¬ S (85 + r) = 2 := by simpa [notL] using hl
      have := m_95 (i1 := i1) (k50 := fX13_keepers_50 i1 k44 n) (Y := sR 11 Y F) (set := set) (by rw [e2]; exact hL) (by rw [e2]; exact hW) hr (by omega) (by rw [e2, e11]; exact h1) (by rw [e2]; exact hl) P 0 mx_fu 1000000 (by omega) (by unfold mx_fu; omega) (by omega)
      rw [e2, nI_0, sR_i] at this
      rw [if_neg hl', c1000000, this]
      refine step _ ?_
      rw [hNr, tl, hl, if_pos rfl, ckL]
    · have hl' : S (85 + r) = 2 := by simpa [notL] using hl
      rw [if_pos hl', nI_1, nI_mul, nI_add, pb_gd (by omega) (by omega), nI_clamp (by omega), e11]
      have := m_95l (i1 := i1) (acc := F (128 * (r + 1) + set)) (k50 := fX13_keepers_50 i1 k44 n) (Y := sR 11 Y F) (set := set) (by rw [e2]; exact hL) hr (by omega) (by rw [e2]; exact hl) P 0 mx_fu (by omega) (by unfold mx_fu; omega)
      rw [nI_0, sR_i] at this
      rw [this]
      refine step _ ?_
      rw [h1 set (by omega), hNr, tl, hl]
      rfl
theorem m_44 {P N : Nat} {Y : MM} {S : Nat → Int32} (hS : Y.1 2 = S) (hL : wLd S P N) (hW : wSt S P N) :
    ∀ r n F, r ≤ N → r < n → (∀ q, r ≤ q → q ≤ N → kTab S P N q F) → ∃ F', fX13_keepers_44 (nI N) n (nI r + (-1 : Int32)) (sR 11 Y F) = (if F' 0 < 1000000 then fX13_keepers_200 (nI N) mx_fu 0 0 (mx_si (sR 11 Y F') 0 29 (nI N)) else some (-1, sR 11 Y F')) ∧ ∀ q, q ≤ N → kTab S P N q F' := by
  intro r
  induction r with
  | zero =>
    intro n F _ hn h
    obtain ⟨n, rfl⟩ : ∃ z, n = z + 1 := ⟨n - 1, by omega⟩
    refine ⟨F, ?_, fun q hq => h q (by omega) hq⟩
    rw [fX13_keepers_44, if_pos (by decide), sR_c]
  | succ r ih =>
    intro n F hr hn h
    obtain ⟨n, rfl⟩ : ∃ z, n = z + 1 := ⟨n - 1, by omega⟩
    have hN := hL.2.2.2.1
    rw [pk_m1, fX13_keepers_44, if_neg (nI_pos (by omega))]
    obtain ⟨F1, a, b, d⟩ := m_50 (i1 := nI N) (k44 := fX13_keepers_44 (nI N) n) hS hL hW (show r < N by omega) 128 0 mx_fu F (by omega) (by unfold mx_fu; omega) (h (r + 1) (by omega) hr) (fun s hs => by omega)
    rw [nI_0] at a
    rw [a]
    refine ih n F1 (by omega) (by omega) (fun q q1 q2 => ?_)
    by_cases e : q = r
    · subst e; exact b
    · intro s hs
      rw [d _ (by omega)]
      exact h q (by omega) q2 s hs
theorem m_kTab {P N : Nat} {Y : MM} (hL : wLd (Y.1 2) P N) (hW : wSt (Y.1 2) P N) : ∃ F', fX13_keepers Y = (if F' 0 < 1000000 then fX13_keepers_200 (nI N) mx_fu 0 0 (mx_si (sR 11 (mx_si Y 0 0 (0 : Int32)) F') 0 29 (nI N)) else some (-1, sR 11 (mx_si Y 0 0 (0 : Int32)) F')) ∧ ∀ q, q ≤ N → kTab (Y.1 2) P N q F' := by
  have hN := hL.2.2.2.1
  rw [fX13_keepers, th2, hL.2.2.1]
  generalize hY0 : mx_si Y 0 0 (0 : Int32) = Y0
  have e2 : Y0.1 2 = Y.1 2 := by rw [← hY0, th2']
  have fill : ∀ c s n F, s + c = 128 → c < n → (∀ j, j < s → F (128 * N + j) = 0) → ∃ F', fX13_keepers_14 (nI N) n (nI s) (sR 11 Y0 F) = fX13_keepers_44 (nI N) mx_fu (nI N - 1) (sR 11 Y0 F') ∧ ∀ j, j < 128 → F' (128 * N + j) = 0 := by
    intro c
    induction c with
    | zero =>
      intro s n F hs hn h
      obtain ⟨n, rfl⟩ : ∃ z, n = z + 1 := ⟨n - 1, by omega⟩
      exact ⟨F, by rw [fX13_keepers_14, c128, if_pos (nI_le (by omega) (by omega))], fun j hj => h j (by omega)⟩
    | succ c ih =>
      intro s n F hs hn h
      obtain ⟨n, rfl⟩ : ∃ z, n = z + 1 := ⟨n - 1, by omega⟩
      rw [fX13_keepers_14, c128, if_neg (nI_ge (by omega) (by omega)), nI_mul, nI_add, pb_gd (by omega) (by omega), nI_clamp (by omega), sR_i, nI_1]
      refine ih (s + 1) n _ (by omega) (by omega) (fun j hj => ?_)
      by_cases e : j = s
      · subst e; rw [pk_us]
      · rw [pk_un (by omega)]; exact h j (by omega)
  obtain ⟨F1, a, b⟩ := fill 128 0 mx_fu (Y0.1 11) (by omega) (by unfold mx_fu; omega) (fun j hj => by omega)
  rw [sR_self, nI_0] at a
  rw [a, Int32.sub_eq_add_neg]
  exact m_44 e2 hL hW N mx_fu F1 (Nat.le_refl _) (by unfold mx_fu; omega) (fun q q1 q2 => by
    have : q = N := by omega
    subst this
    intro s hs
    rw [b s hs, Nat.sub_self]
    rfl)
/-! the class's table -/
theorem x_mayKeep {r set q P N : Nat} {X : MM} {S : Nat → Int32} (hL : wLd S P N) (hX : rLd X S P N) (hr : r < N) (hq : q < P) (hs : set < 128) : fX6_mayKeep (nI set) (nI q) (nI r) X = some (okL S r set q) := by
  have hP := hL.2.1
  have hN := hL.2.2.2.1
  obtain ⟨e1, e2⟩ := own_eq hL hr
  have hz := bit_z set hs q (by omega)
  have h16 : X.1 16 r = nI (own S r) := (hX.2.2.2.2.2.2 r hr).2.1.trans e1
  rw [fX6_mayKeep, pb_gd (by omega) (by omega), nI_clamp (by omega), h16, okL]
  simp only [propext (nI_eq (a := own S r) (b := q) (by omega) (by omega))]
  rcases Bool.eq_false_or_eq_true (set.testBit q) with h | h
  · rw [h] at hz ⊢
    have hz' : ¬ ((nI set >>> (nI q &&& 31)) &&& (1 : Int32)) = 0 := by simpa using hz
    rw [if_neg hz']; rfl
  · rw [h] at hz ⊢
    have hz' : ((nI set >>> (nI q &&& 31)) &&& (1 : Int32)) = 0 := by simpa using hz
    rw [if_pos hz']
    by_cases b : own S r = q <;> simp [b]
theorem x_keepersBy {r set q P N : Nat} {X : MM} {S : Nat → Int32} (hL : wLd S P N) (hW : wSt S P N) (hX : rLd X S P N) (hR : rSt 29 X S P N) (hr : r < N) (hq : q < P) (hs : set < 128) : fX6_keepersBy (nI set) (nI q) (nI r) X = some (nI (frN S q (own S r)) + X.1 147 (set ||| 2 ^ q)) := by
  have hP := hL.2.1
  have hN := hL.2.2.2.1
  obtain ⟨e1, e2⟩ := own_eq hL hr
  obtain ⟨o1, o2⟩ := bit_or set hs q (by omega)
  have h16 : X.1 16 r = nI (own S r) := (hX.2.2.2.2.2.2 r hr).2.1.trans e1
  rw [fX6_keepersBy, pb_gd (by omega) (by omega), nI_clamp (by omega), h16, x_farBetween hR hq e2 hP, (frN_eq hW hq e2).1]
  simp only [pb_bs]
  rw [o1, pb_gd o2 (by omega), nI_clamp (by omega)]
/-- toGive holds G -/
def kGive (X : MM) (G : List Nat) : Prop := ∀ i (h : i < G.length), X.1 148 i = nI G[i]
theorem x_leastK {set P N : Nat} {X : MM} {S : Nat → Int32} {G : List Nat} (hL : wLd S P N) (hW : wSt S P N) (hX : rLd X S P N) (hR : rSt 29 X S P N) (hG : kGive X G) (hG7 : G.length ≤ 7) (hGr : ∀ r ∈ G, r < N) (hs : set < 2 ^ P) (hT : ∀ u, set < u → u < 2 ^ P → X.1 147 u = nI (ckL S P (G.drop (popc u)) u)) : fX6_leastKeepers (nI set) (nI G.length) X = some (nI (ckL S P (G.drop (popc set)) set)) := by
  have hP := hL.2.1
  have hN := hL.2.2.2.1
  have h128 : 2 ^ P ≤ 2 ^ 7 := Nat.pow_le_pow_right (by omega) hP
  have hs128 : set < 128 := by omega
  have hp7 := bit_pop set hs128
  rw [fX6_leastKeepers, x_bitCount hs128]
  simp only [pb_bs, pb_lt (show popc set < 2 ^ 31 by omega) (show G.length < 2 ^ 31 by omega)]
  by_cases hk : popc set < G.length
  · rw [if_pos hk, List.drop_eq_getElem_cons hk, ckL]
    have hr : G[popc set] < N := hGr _ (List.getElem_mem hk)
    generalize hgr : G[popc set] = r at hr
    have key : ∀ c k n acc, k + c = P → c < n → acc ≤ 1000000 → fX6_leastKeepers_21 (nI set) (nI G.length) X (nI (popc set)) n (nI acc) (nI k) = some (nI (pfor (stL S (ckL S P (G.drop (popc set + 1))) r set) k c acc)) := by
      intro c
      induction c with
      | zero =>
        intro k n acc hk hn ha
        obtain ⟨n, rfl⟩ : ∃ z, n = z + 1 := ⟨n - 1, by omega⟩
        rw [fX6_leastKeepers_21, hX.1, hL.1, if_pos (nI_le (by omega) (by omega))]
        rfl
      | succ c ih =>
        intro k n acc hk' hn ha
        obtain ⟨n, rfl⟩ : ∃ z, n = z + 1 := ⟨n - 1, by omega⟩
        obtain ⟨o1, o2⟩ := bit_or set hs128 k (by omega)
        have hle := ckL_le (S := S) (P := P) (G.drop (popc set + 1)) (set ||| 2 ^ k)
        have hfr := (frN_eq hW (show k < P by omega) (own_eq hL hr).2).2
        rw [fX6_leastKeepers_21, hX.1, hL.1, if_neg (nI_ge (by omega) (by omega)), pb_gd (by omega) (by omega), nI_clamp (by omega), hG _ hk, hgr, x_mayKeep hL hX hr (by omega) hs128, x_keepersBy hL hW hX hR hr (by omega) hs128, pfor, stL]
        simp only [pb_bs, nI_1]
        rcases Bool.eq_false_or_eq_true (okL S r set k) with h | h
        · have hb : set.testBit k = false := by
            simp only [okL, Bool.and_eq_true, Bool.not_eq_true'] at h
            exact h.1
          have hlt : set ||| 2 ^ k < 2 ^ P := Nat.or_lt_two_pow hs (Nat.pow_lt_pow_right (by omega) (by omega))
          rw [h, if_neg b_t, if_pos rfl, pb_gd (by omega) (by omega), hT _ (bit_gt set hs128 k (by omega) hb) hlt, bit_add set hs128 k (by omega) hb, nI_add, x_min (by omega) (by omega)]
          exact ih (k + 1) n _ (by omega) (by omega) (by omega)
        · rw [h, if_pos b_f, if_neg (by simp)]
          exact ih (k + 1) n _ (by omega) (by omega) (by omega)
    exact key P 0 mx_fu 1000000 (by omega) (by unfold mx_fu; omega) (by omega)
  · rw [if_neg hk, List.drop_eq_nil_of_le (by omega)]
    rfl
