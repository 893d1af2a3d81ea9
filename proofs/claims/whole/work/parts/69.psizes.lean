/-! sizes: tries -/
theorem pfst_min (f : Nat → Bool) : ∀ c k j, k ≤ j → j < pfst f k c → f j = false := by
  intro c
  induction c with
  | zero => intro k j h1 h2; rw [pfst] at h2; omega
  | succ c ih =>
    intro k j h1 h2
    rw [pfst] at h2
    by_cases hk : f k = true
    · rw [if_pos hk] at h2; omega
    · rw [if_neg hk] at h2
      by_cases e : j = k
      · subst e; simpa using hk
      · exact ih (k + 1) j (by omega) h2
theorem pgr_max (f : Nat → Bool) : ∀ n r, r < n → f r = true → r ≤ pgr f n := by
  intro n
  induction n with
  | zero => intro r h; omega
  | succ n ih =>
    intro r h hf
    rw [pgr]
    by_cases hn : f n = true
    · rw [if_pos hn]; omega
    · rw [if_neg hn]
      have : r ≠ n := fun e => hn (e ▸ hf)
      exact ih r (by omega) hf
def gI (lo hi v : Nat) : Bool := decide (lo ≤ v) && decide (v ≤ hi)
theorem convex {g : Nat → Bool} (h : ∀ v1 v v3, 1 ≤ v1 → v1 ≤ v → v ≤ v3 → v3 ≤ 20 → g v1 = true → g v3 = true → g v = true) : (∀ v, 1 ≤ v → v ≤ 20 → g v = false) ∨ ∃ lo hi, 1 ≤ lo ∧ lo ≤ hi ∧ hi ≤ 20 ∧ ∀ v, 1 ≤ v → v ≤ 20 → g v = gI lo hi v := by
  by_cases hl : pfst g 1 20 = 1 + 20
  · left
    intro v h1 h2
    exact (pfst_all g 20 1).mp hl v h1 (by omega)
  · right
    have hle := pfst_le g 20 1
    have his := pfst_is g 20 1 (by omega)
    generalize hlo : pfst g 1 20 = lo at hl hle his
    have hex : ∃ r, r < 21 ∧ g r = true := ⟨lo, by omega, his⟩
    obtain ⟨p1, p2⟩ := pgr_lt 21 hex
    have p3 := pgr_max g 21 lo (by omega) his
    refine ⟨lo, pgr g 21, hle.1, p3, by omega, fun v h1 h2 => ?_⟩
    unfold gI
    by_cases a : lo ≤ v
    · by_cases b : v ≤ pgr g 21
      · rw [h lo v (pgr g 21) hle.1 a b (by omega) his p2]; simp [a, b]
      · have : g v = false := by
          cases hg : g v with
          | false => rfl
          | true => exact absurd (pgr_max g 21 v (by omega) hg) b
        simp [this, b]
    · have : g v = false := pfst_min g 20 1 v h1 (by omega)
      simp [this, a]
theorem feelN {S : Nat → Int32} {P N q v a f : Nat} (ha : S (19 + q) = nI a) (hf : S 2 = nI f) (h1 : a ≤ 1000) (h2 : f ≤ 1000) (h3 : v ≤ 1000) : sFeel S (nI v) q = if a ≤ v + f then if v ≤ a + f then 1 else 2 else 0 := by
  have e1 : (nI a - nI f ≤ nI v) = (a ≤ v + f) := by
    rw [Int32.le_iff_toInt_le, pk_sub_toInt (by omega) (by omega), nI_toInt (by omega)]
    apply propext; omega
  have e2 : (nI v ≤ nI a + nI f) = (v ≤ a + f) := by
    rw [nI_add, pb_le (by omega) (by omega)]
  rw [sFeel, ha, hf]
  simp only [e1, e2]
theorem feel_conv {S : Nat → Int32} {P N q v1 v v3 : Nat} {c : Int32} (hW : wLd S P N) (hq : q < P) (h1 : v1 ≤ v) (h2 : v ≤ v3) (h3 : v3 ≤ 20) (a : sFeel S (nI v1) q = c) (b : sFeel S (nI v3) q = c) : sFeel S (nI v) q = c := by
  obtain ⟨-, hP, -, hN, ⟨f, hf, ef⟩, -, -, hp, -⟩ := hW
  obtain ⟨-, -, ⟨x, hx1, hx2, ex⟩⟩ := hp q hq
  rw [feelN (P := P) (N := N) ex ef (by omega) (by omega) (by omega)] at a b ⊢
  have n01 : ¬ (0 : Int32) = 1 := by decide
  have n12 : ¬ (1 : Int32) = 2 := by decide
  have n02 : ¬ (0 : Int32) = 2 := by decide
  subst a
  by_cases k1 : x ≤ v1 + f <;> by_cases k2 : v1 ≤ x + f <;> by_cases k3 : x ≤ v3 + f <;> by_cases k4 : v3 ≤ x + f <;> by_cases k5 : x ≤ v + f <;> by_cases k6 : v ≤ x + f <;> simp only [k1, k2, k3, k4, k5, k6, ↓reduceIte] at b ⊢ <;> first | rfl | omega | exact absurd b (by decide)
def MK (lo hi : Nat) : Int32 := pfor (fun k acc => if gI lo hi k then acc ||| ((1 : Int32) <<< (nI k &&& 31)) else acc) 1 20 0
theorem MK_cnt : ∀ lo, lo < 21 → ∀ hi, hi < 21 → 1 ≤ lo → lo ≤ hi → fJ6_bitCount_0f7a4 (MK lo hi) pM0 = some (nI (hi - lo + 1)) := by decide +kernel
theorem MK_ne : ∀ lo, lo < 21 → ∀ hi, hi < 21 → 1 ≤ lo → lo ≤ hi → ¬ MK lo hi = 0 := by decide +kernel
def MKb (lo hi v : Nat) : Bool := !decide (1 ≤ lo) || !decide (lo ≤ hi) || !decide (1 ≤ v) || (decide (((MK lo hi >>> (nI v &&& 31)) &&& (1 : Int32)) = 1) == gI lo hi v)
theorem MKb_all : ∀ lo, lo < 21 → ∀ hi, hi < 21 → ∀ v, v < 21 → MKb lo hi v = true := by decide +kernel
theorem MK_bit : ∀ lo, lo < 21 → ∀ hi, hi < 21 → ∀ v, v < 21 → 1 ≤ lo → lo ≤ hi → 1 ≤ v → decide (((MK lo hi >>> (nI v &&& 31)) &&& (1 : Int32)) = 1) = gI lo hi v := by
  intro lo h1 hi h2 v h3 a b c
  have := MKb_all lo h1 hi h2 v h3
  simp only [MKb, a, b, c, decide_true, Bool.not_true, Bool.false_or, beq_iff_eq] at this
  exact this
/-- how many from k on, c of them -/
def pct (h : Nat → Bool) : Nat → Nat → Nat
  | _, 0 => 0
  | k, c + 1 => (if h k then 1 else 0) + pct h (k + 1) c
theorem pct_le (h : Nat → Bool) : ∀ c k, pct h k c ≤ c := by
  intro c
  induction c with
  | zero => intro k; exact Nat.le_refl _
  | succ c ih =>
    intro k
    rw [pct]
    have := ih (k + 1)
    split <;> omega
theorem pct_gI {lo hi : Nat} (h1 : 1 ≤ lo) : ∀ c k, pct (gI lo hi) k c = (min (hi + 1) (k + c) - max lo k) := by
  intro c
  induction c with
  | zero => intro k; rw [pct]; omega
  | succ c ih =>
    intro k
    rw [pct, ih (k + 1), gI]
    by_cases a : lo ≤ k <;> by_cases b : k ≤ hi <;> simp [a, b] <;> omega
/-- what sizes reads: the tape's bytes t, L of them -/
def szX (X : MM) (S : Nat → Int32) (t : Nat → Nat) (L P N : Nat) : Prop := X.1 1 1 = nI L ∧ (∀ i, i < L → X.1 2 i &&& (255 : Int32) = nI (t i)) ∧ rLd X S P N
def szY (Y : MM) (S : Nat → Int32) (t : Nat → Nat) (L : Nat) : Prop := Y.1 0 3 = nI L ∧ (∀ i, i < L → Y.1 1 i &&& (255 : Int32) = nI (t i)) ∧ Y.1 2 = S
theorem x_oct {X : MM} {S : Nat → Int32} {t : Nat → Nat} {L P N i : Nat} (h : szX X S t L P N) (hL : L ≤ 940) (hi : i < L) : fX10_at (nI i) X = some (nI (t i)) := by
  rw [fX10_at, if_neg (nI_pos (by omega)), h.1, if_pos (nI_lt hi (by omega)), pb_gd (by omega) (by omega), nI_clamp (by omega), h.2.1 i hi]
theorem m_oct {Y : MM} {S : Nat → Int32} {t : Nat → Nat} {L i : Nat} (h : szY Y S t L) (hL : L ≤ 940) (hi : i < L) : fX13_octet (nI i) Y = some (nI (t i)) := by
  rw [fX13_octet, pb_gd (by omega) (by omega), nI_clamp (by omega), h.2.1 i hi]
def badT (t : Nat → Nat) (P i : Nat) : Bool := !(decide (t (2 * i) < P) && decide (t (2 * i + 1) ≤ 2))
def badS (S : Nat → Int32) (t : Nat → Nat) (v i : Nat) : Bool := !decide (sFeel S (nI v) (t (2 * i)) = nI (t (2 * i + 1)))
def isSz (S : Nat → Int32) (t : Nat → Nat) (K v : Nat) : Bool := decide (pfst (badS S t v) 0 K = K)
theorem in_nI {a n : Nat} (ha : a < 2 ^ 31) : mx_in (nI a) n = decide (a < n) := by
  simp only [mx_in, nI_clamp ha, nI_pos' ha, decide_true, Bool.true_and]
theorem x_tries {X : MM} {S : Nat → Int32} {t : Nat → Nat} {K P N : Nat} (hW : wLd S P N) (h : szX X S t (2 * K) P N) (hK : K ≤ 8) (ht : ∀ i, t i < 256) : fX2_areTries_26 X (nI (2 * K)) mx_fu (0 : Int32) = some (decide (pfst (badT t P) 0 K = K)) := by
  have key := loop_fstN (F := fun n k => fX2_areTries_26 X (nI (2 * K)) n (nI (2 * k))) (f := badT t P) (N := K) (fin := fun k => some (decide (k = K))) (fun n => by
      show fX2_areTries_26 X (nI (2 * K)) (n + 1) (nI (2 * K)) = _
      rw [fX2_areTries_26, if_pos (nI_le (Nat.le_refl _) (by omega))]; simp) (fun n k hk => by
      show fX2_areTries_26 X (nI (2 * K)) (n + 1) (nI (2 * k)) = _
      have t1 := ht (2 * k)
      have t2 := ht (2 * k + 1)
      have hne : ¬ k = K := by omega
      rw [fX2_areTries_26, if_neg (nI_ge (by omega) (by omega)), x_oct h (by omega) (by omega)]
      simp only [pb_bs, nI_1]
      rw [x_isPerson (h.2.2.1.trans hW.1) hW.2.1, in_nI (by omega), x_oct h (by omega) (by omega)]
      simp only [pb_bs]
      rw [c2, nI_add, show 2 * k + 2 = 2 * (k + 1) by omega]
      simp only [pb_le (show t (2 * k + 1) < 2 ^ 31 by omega) (show 2 < 2 ^ 31 by omega), pb_b0, badT]
      by_cases a : t (2 * k) < P <;> by_cases b : t (2 * k + 1) ≤ 2 <;> simp [a, b, hne]) K 0 mx_fu (by omega) (by unfold mx_fu; omega)
  exact key
theorem m_tries39 {Y : MM} {S : Nat → Int32} {t : Nat → Nat} {K P N : Nat} (hW : wLd S P N) (h : szY Y S t (2 * K)) (hK : K ≤ 8) (ht : ∀ i, t i < 256) : fX13_sizes_39 mx_fu (0 : Int32) Y = if pfst (badT t P) 0 K = K then fX13_sizes_85 mx_fu (0 : Int32) (0 : Int32) (20 : Int32) Y else some (-1, Y) := by
  have key := loop_fstN (F := fun n k => fX13_sizes_39 n (nI (2 * k)) Y) (f := badT t P) (N := K) (fin := fun k => if k = K then fX13_sizes_85 mx_fu (0 : Int32) (0 : Int32) (20 : Int32) Y else some (-1, Y)) (fun n => by
      show fX13_sizes_39 (n + 1) (nI (2 * K)) Y = _
      rw [fX13_sizes_39, h.1, if_pos (nI_le (Nat.le_refl _) (by omega)), if_pos rfl]) (fun n k hk => by
      show fX13_sizes_39 (n + 1) (nI (2 * k)) Y = _
      have t1 := ht (2 * k)
      have t2 := ht (2 * k + 1)
      have hne : ¬ k = K := by omega
      rw [fX13_sizes_39, h.1, if_neg (nI_ge (by omega) (by omega)), m_oct h (by omega) (by omega)]
      simp only [pb_bs, nI_1]
      rw [m_isPerson (by rw [h.2.2]; exact hW.1) hW.2.1, in_nI (by omega), m_oct h (by omega) (by omega)]
      simp only [pb_bs]
      rw [c2, nI_add, show 2 * k + 2 = 2 * (k + 1) by omega]
      simp only [pb_le (show t (2 * k + 1) < 2 ^ 31 by omega) (show 2 < 2 ^ 31 by omega), pb_b0, badT]
      by_cases a : t (2 * k) < P <;> by_cases b : t (2 * k + 1) ≤ 2 <;> simp [a, b, hne]) K 0 mx_fu (by omega) (by unfold mx_fu; omega)
  exact key
theorem x_isSz {X : MM} {S : Nat → Int32} {t : Nat → Nat} {K P N v : Nat} (hW : wLd S P N) (h : szX X S t (2 * K) P N) (hK : K ≤ 8) (hg : ∀ i, i < K → t (2 * i) < P) (hv : v ≤ 20) : fX2_isJustSo (nI v) X = some (isSz S t K v) := by
  have key := loop_fstN (F := fun n k => fX2_isJustSo_2 (nI v) X n (nI (2 * k))) (f := badS S t v) (N := K) (fin := fun k => some (decide (k = K))) (fun n => by
      show fX2_isJustSo_2 (nI v) X (n + 1) (nI (2 * K)) = _
      rw [fX2_isJustSo_2, h.1, if_pos (nI_le (Nat.le_refl _) (by omega))]; simp) (fun n k hk => by
      show fX2_isJustSo_2 (nI v) X (n + 1) (nI (2 * k)) = _
      have hne : ¬ k = K := by omega
      rw [fX2_isJustSo_2, h.1, if_neg (nI_ge (by omega) (by omega)), x_oct h (by omega) (by omega)]
      simp only [pb_bs, nI_1]
      rw [x_feel hW h.2.2 (by omega) (hg k hk), x_oct h (by omega) (by omega)]
      simp only [pb_bs]
      rw [c2, nI_add, show 2 * k + 2 = 2 * (k + 1) by omega]
      simp only [badS]
      by_cases a : sFeel S (nI v) (t (2 * k)) = nI (t (2 * k + 1)) <;> simp [a, hne]) K 0 mx_fu (by omega) (by unfold mx_fu; omega)
  exact key
theorem m_isSz {Y : MM} {S : Nat → Int32} {t : Nat → Nat} {K P N v : Nat} (hW : wLd S P N) (h : szY Y S t (2 * K)) (hK : K ≤ 8) (hg : ∀ i, i < K → t (2 * i) < P) : fX13_isSize (nI v) Y = some (isSz S t K v) := by
  have hP := hW.2.1
  have fls : ∀ c k n, k + c = K → c < n → fX13_isSize_4 (nI v) Y n false (nI (2 * k)) = some false := by
    intro c
    induction c with
    | zero =>
      intro k n hk hn
      obtain ⟨n, rfl⟩ : ∃ z, n = z + 1 := ⟨n - 1, by omega⟩
      rw [fX13_isSize_4, h.1, if_pos (nI_le (by omega) (by omega))]
    | succ c ih =>
      intro k n hk hn
      obtain ⟨n, rfl⟩ : ∃ z, n = z + 1 := ⟨n - 1, by omega⟩
      rw [fX13_isSize_4, h.1, if_neg (nI_ge (by omega) (by omega)), if_pos b_f, c2, nI_add, show 2 * k + 2 = 2 * (k + 1) by omega]
      exact ih (k + 1) n (by omega) (by omega)
  have tru : ∀ c k n, k + c = K → c < n → fX13_isSize_4 (nI v) Y n true (nI (2 * k)) = some (decide (pfst (badS S t v) k c = K)) := by
    intro c
    induction c with
    | zero =>
      intro k n hk hn
      obtain ⟨n, rfl⟩ : ∃ z, n = z + 1 := ⟨n - 1, by omega⟩
      rw [fX13_isSize_4, h.1, if_pos (nI_le (by omega) (by omega)), pfst]
      have : k = K := by omega
      simp [this]
    | succ c ih =>
      intro k n hk hn
      obtain ⟨n, rfl⟩ : ∃ z, n = z + 1 := ⟨n - 1, by omega⟩
      have hne : ¬ k = K := by omega
      rw [fX13_isSize_4, h.1, if_neg (nI_ge (by omega) (by omega)), if_neg b_t, m_oct h (by omega) (by omega)]
      simp only [pb_bs, nI_1]
      have hq := hg k (by omega)
      rw [m_feels (by omega), h.2.2, m_oct h (by omega) (by omega)]
      simp only [pb_bs]
      rw [c2, nI_add, show 2 * k + 2 = 2 * (k + 1) by omega, pfst, badS]
      by_cases a : sFeel S (nI v) (t (2 * k)) = nI (t (2 * k + 1))
      · rw [if_pos a, ih (k + 1) n (by omega) (by omega)]
        simp [a]
      · rw [if_neg a, fls c (k + 1) n (by omega) (by omega)]
        simp [a, hne]
  exact tru K 0 mx_fu (by omega) (by unfold mx_fu; omega)
theorem isSz_conv {S : Nat → Int32} {t : Nat → Nat} {K P N : Nat} (hW : wLd S P N) (hg : ∀ i, i < K → t (2 * i) < P) : ∀ v1 v v3, 1 ≤ v1 → v1 ≤ v → v ≤ v3 → v3 ≤ 20 → isSz S t K v1 = true → isSz S t K v3 = true → isSz S t K v = true := by
  intro v1 v v3 h0 h1 h2 h3 a b
  have al : ∀ v, isSz S t K v = true ↔ ∀ j, j < K → sFeel S (nI v) (t (2 * j)) = nI (t (2 * j + 1)) := by
    intro v
    have := pfst_all (badS S t v) K 0
    rw [Nat.zero_add] at this
    rw [isSz, decide_eq_true_eq, this]
    constructor
    · intro h j hj
      have := h j (by omega) hj
      simpa [badS] using this
    · intro h j _ hj
      simp [badS, h j hj]
  rw [al] at a b ⊢
  intro j hj
  exact feel_conv hW (hg j hj) h1 h2 h3 (a j hj) (b j hj)
/-! how many are left by a person -/
def lfC (S : Nat → Int32) (g : Nat → Bool) (q : Nat) (w : Int32) (v : Nat) : Bool := g v && decide (sFeel S (nI v) q = w)
def lf (S : Nat → Int32) (g : Nat → Bool) (q : Nat) : Nat := max (pct (lfC S g q 0) 1 20) (max (pct (lfC S g q 1) 1 20) (pct (lfC S g q 2) 1 20))
theorem sFeel_3 (S : Nat → Int32) (z : Int32) (q : Nat) : sFeel S z q = 0 ∨ sFeel S z q = 1 ∨ sFeel S z q = 2 := by
  unfold sFeel
  split
  · split
    · exact Or.inr (Or.inl rfl)
    · exact Or.inr (Or.inr rfl)
  · exact Or.inl rfl
theorem x_most {X : MM} {S : Nat → Int32} {P N q lo hi : Nat} {g : Nat → Bool} (hW : wLd S P N) (hL : rLd X S P N) (hq : q < P) (h1 : 1 ≤ lo) (h2 : lo ≤ hi) (h3 : hi ≤ 20) (hg : ∀ v, 1 ≤ v → v ≤ 20 → g v = gI lo hi v) : fX2_mostLeftBy (MK lo hi) (nI q) X = some (nI (lf S g q)) := by
  have hb : ∀ v, v < 21 → 1 ≤ v → _ := fun v hv hv1 => MK_bit lo (by omega) hi (by omega) v hv h1 h2 hv1
  have key : ∀ c k n a b d, k + c = 21 → 1 ≤ k → c < n → a + c ≤ 100 → b + c ≤ 100 → d + c ≤ 100 → fX2_mostLeftBy_11 (MK lo hi) (nI q) X n (nI a) (nI b) (nI d) (nI k) = some (nI (max (a + pct (lfC S g q 0) k c) (max (b + pct (lfC S g q 1) k c) (d + pct (lfC S g q 2) k c)))) := by
    intro c
    induction c with
    | zero =>
      intro k n a b d hk hk1 hn ha hb hd
      obtain ⟨n, rfl⟩ : ∃ z, n = z + 1 := ⟨n - 1, by omega⟩
      rw [fX2_mostLeftBy_11, c20, if_pos (nI_lt (by omega) (by omega)), pct, pct, pct]
      simp only [pb_lt (show b < 2 ^ 31 by omega) (show d < 2 ^ 31 by omega)]
      congr 1
      by_cases e1 : b < d
      · rw [if_pos e1]
        simp only [pb_lt (show a < 2 ^ 31 by omega) (show d < 2 ^ 31 by omega)]
        by_cases e2 : a < d
        · rw [if_pos e2]; congr 1; omega
        · rw [if_neg e2]; congr 1; omega
      · rw [if_neg e1]
        simp only [pb_lt (show a < 2 ^ 31 by omega) (show b < 2 ^ 31 by omega)]
        by_cases e2 : a < b
        · rw [if_pos e2]; congr 1; omega
        · rw [if_neg e2]; congr 1; omega
    | succ c ih =>
      intro k n a b d hk hk1 hn ha hb' hd
      obtain ⟨n, rfl⟩ : ∃ z, n = z + 1 := ⟨n - 1, by omega⟩
      have ht := hb k (by omega) hk1
      rw [← hg k hk1 (by omega)] at ht
      rw [fX2_mostLeftBy_11, c20, if_neg (nI_nlt (by omega) (by omega)), x_feel hW hL (by omega) hq, pct, pct, pct]
      simp only [pb_bs, nI_1, fX2_mostLeftBy_48, fX2_mostLeftBy_63]
      have b0 : ∀ z : Int32, z + mx_b false = z := fun z => by rw [b_f]; exact Int32.add_zero _
      have b1 : ∀ z : Nat, nI z + mx_b true = nI (z + 1) := fun z => nI_1 z
      have z0 : ∀ z : Int32, z + 0 = z := fun z => Int32.add_zero _
      cases hgk : g k with
      | false =>
        rw [hgk] at ht
        have ht' : ¬ ((MK lo hi >>> (nI k &&& 31)) &&& (1 : Int32)) = 1 := by simpa using ht
        rw [if_neg ht', ih (k + 1) n a b d (by omega) (by omega) (by omega) (by omega) (by omega) (by omega)]
        simp [lfC, hgk]
      | true =>
        rw [hgk] at ht
        have ht' : ((MK lo hi >>> (nI k &&& 31)) &&& (1 : Int32)) = 1 := by simpa using ht
        rw [if_pos ht']
        have n1 : ¬ (1 : Int32) = 0 := by decide
        have n2 : ¬ (2 : Int32) = 0 := by decide
        have n3 : ¬ (0 : Int32) = 1 := by decide
        have n4 : ¬ (0 : Int32) = 2 := by decide
        have n5 : ¬ (1 : Int32) = 2 := by decide
        have n6 : ¬ (2 : Int32) = 1 := by decide
        rcases sFeel_3 S (nI k) q with hs | hs | hs
        · rw [hs, if_pos rfl, if_neg n3, if_neg n4, b0, b1, z0, ih (k + 1) n (a + 1) b d (by omega) (by omega) (by omega) (by omega) (by omega) (by omega)]
          simp only [lfC, hgk, hs, Bool.true_and, decide_true, decide_eq_true_eq, n3, n4, ↓reduceIte, Nat.zero_add, Nat.add_assoc]
        · rw [hs, if_neg n1, if_pos rfl, if_neg n5, b0, b1, z0, ih (k + 1) n a (b + 1) d (by omega) (by omega) (by omega) (by omega) (by omega) (by omega)]
          simp only [lfC, hgk, hs, Bool.true_and, decide_true, decide_eq_true_eq, n1, n5, ↓reduceIte, Nat.zero_add, Nat.add_assoc]
        · rw [hs, if_neg n2, if_neg n6, if_pos rfl, b0, b0, ih (k + 1) n a b (d + 1) (by omega) (by omega) (by omega) (by omega) (by omega) (by omega)]
          simp only [lfC, hgk, hs, Bool.true_and, decide_true, decide_eq_true_eq, n2, n6, ↓reduceIte, Nat.zero_add, Nat.add_assoc]
  have := key 20 1 mx_fu 0 0 0 (by omega) (by omega) (by unfold mx_fu; omega) (by omega) (by omega) (by omega)
  simp only [Nat.zero_add] at this
  exact this
theorem m_left {Y : MM} {S : Nat → Int32} {t : Nat → Nat} {K P N q : Nat} (hW : wLd S P N) (h : szY Y S t (2 * K)) (hK : K ≤ 8) (hg : ∀ i, i < K → t (2 * i) < P) (hq : q < P) : fX13_leftBy (nI q) Y = some (nI (lf S (isSz S t K) q)) := by
  have hP := hW.2.1
  have key : ∀ (w : Int32) (k4 : Int32 → Int32 → Option Int32) (m : Nat), m ≤ 100 → ∀ c k n a, k + c = 21 → 1 ≤ k → c < n → a + c ≤ 100 → fX13_leftBy_15 (nI q) Y k4 n (nI m) w (nI a) (nI k) = k4 (nI (max m (a + pct (lfC S (isSz S t K) q w) k c))) (w + 1) := by
    intro w k4 m hm c
    induction c with
    | zero =>
      intro k n a hk hk1 hn ha
      obtain ⟨n, rfl⟩ : ∃ z, n = z + 1 := ⟨n - 1, by omega⟩
      rw [fX13_leftBy_15, c20, if_pos (nI_lt (by omega) (by omega)), fX13_greater, pct]
      simp only [pb_le (show m < 2 ^ 31 by omega) (show a < 2 ^ 31 by omega)]
      by_cases e : m ≤ a
      · rw [if_pos e]; simp only [pb_bs]; rw [show max m (a + 0) = a by omega]
      · rw [if_neg e]; simp only [pb_bs]; rw [show max m (a + 0) = m by omega]
    | succ c ih =>
      intro k n a hk hk1 hn ha
      obtain ⟨n, rfl⟩ : ∃ z, n = z + 1 := ⟨n - 1, by omega⟩
      rw [fX13_leftBy_15, c20, if_neg (nI_nlt (by omega) (by omega)), m_isSz hW h hK hg, m_feels (by omega), h.2.2, pct]
      have z0 : ∀ z : Int32, z + 0 = z := fun z => Int32.add_zero _
      simp only [pb_bs, nI_1, z0]
      rcases Bool.eq_false_or_eq_true (isSz S t K k) with hgk | hgk
      rotate_left
      · rw [hgk, if_pos b_f, ih (k + 1) n a (by omega) (by omega) (by omega) (by omega)]
        simp [lfC, hgk]
      · rw [hgk, if_neg b_t]
        by_cases e : sFeel S (nI k) q = w
        · rw [if_pos e, ih (k + 1) n (a + 1) (by omega) (by omega) (by omega) (by omega)]
          simp [lfC, hgk, e, Nat.add_assoc]
        · rw [if_neg e, ih (k + 1) n a (by omega) (by omega) (by omega) (by omega)]
          simp [lfC, hgk, e]
  have l0 := pct_le (lfC S (isSz S t K) q 0) 20 1
  have l1 := pct_le (lfC S (isSz S t K) q 1) 20 1
  have l2 := pct_le (lfC S (isSz S t K) q 2) 20 1
  have fu : 20 < mx_fu := by unfold mx_fu; omega
  rw [fX13_leftBy, show mx_fu = 9996 + 1 + 1 + 1 + 1 from rfl, fX13_leftBy_4, if_neg (by decide)]
  have k0 := key 0 (fX13_leftBy_4 (nI q) Y (9996 + 1 + 1 + 1)) 0 (by omega) 20 1 mx_fu 0 (by omega) (by omega) fu (by omega)
  have k1 := key (0 + 1) (fX13_leftBy_4 (nI q) Y (9996 + 1 + 1)) (pct (lfC S (isSz S t K) q 0) 1 20) (by omega) 20 1 mx_fu 0 (by omega) (by omega) fu (by omega)
  have k2 := key (0 + 1 + 1) (fX13_leftBy_4 (nI q) Y (9996 + 1)) (max (pct (lfC S (isSz S t K) q 0) 1 20) (pct (lfC S (isSz S t K) q 1) 1 20)) (by omega) 20 1 mx_fu 0 (by omega) (by omega) fu (by omega)
  simp only [Nat.zero_add, Nat.zero_max] at k0 k1 k2
  have k0 : fX13_leftBy_15 (nI q) Y (fX13_leftBy_4 (nI q) Y (9996 + 1 + 1 + 1)) mx_fu 0 0 0 1 = _ := k0
  rw [k0, fX13_leftBy_4, if_neg (by decide)]
  have k1 : fX13_leftBy_15 (nI q) Y (fX13_leftBy_4 (nI q) Y (9996 + 1 + 1)) mx_fu (nI (pct (lfC S (isSz S t K) q 0) 1 20)) (0 + 1) 0 1 = _ := k1
  rw [k1, fX13_leftBy_4, if_neg (by decide)]
  have k2 : fX13_leftBy_15 (nI q) Y (fX13_leftBy_4 (nI q) Y (9996 + 1)) mx_fu (nI (max (pct (lfC S (isSz S t K) q 0) 1 20) (pct (lfC S (isSz S t K) q 1) 1 20))) (0 + 1 + 1) 0 1 = _ := k2
  have e01 : pct (lfC S (isSz S t K) q (0 + 1)) 1 20 = pct (lfC S (isSz S t K) q 1) 1 20 := rfl
  rw [e01, k2, fX13_leftBy_4, if_pos (by decide), lf]
  have e02 : pct (lfC S (isSz S t K) q (0 + 1 + 1)) 1 20 = pct (lfC S (isSz S t K) q 2) 1 20 := rfl
  rw [e02, Nat.max_assoc]
/-! the whole call -/
def bst (f : Nat → Nat) (i b : Nat) : Nat := if f b ≤ f i then b else i
theorem bst_lt {f : Nat → Nat} {P : Nat} : ∀ c k b, k + c ≤ P → b < P → pfor (bst f) k c b < P := by
  intro c
  induction c with
  | zero => intro k b _ hb; exact hb
  | succ c ih =>
    intro k b hk hb
    rw [pfor]
    refine ih (k + 1) _ (by omega) ?_
    unfold bst
    split <;> omega
theorem lf_le (S : Nat → Int32) (g : Nat → Bool) (q : Nat) : lf S g q ≤ 20 := by
  have l0 := pct_le (lfC S g q 0) 20 1
  have l1 := pct_le (lfC S g q 1) 20 1
  have l2 := pct_le (lfC S g q 2) 20 1
  unfold lf
  omega
theorem x_best {X : MM} {S : Nat → Int32} {P N lo hi : Nat} {g : Nat → Bool} (hW : wLd S P N) (hL : rLd X S P N) (h0 : 1 ≤ P) (h1 : 1 ≤ lo) (h2 : lo ≤ hi) (h3 : hi ≤ 20) (hg : ∀ v, 1 ≤ v → v ≤ 20 → g v = gI lo hi v) : fX2_bestToTry (MK lo hi) X = some (nI (pfor (bst (lf S g)) 1 (P - 1) 0)) := by
  have hP := hW.2.1
  have hx0 : X.1 9 0 = nI P := hL.1.trans hW.1
  have key : ∀ c k n b, k + c = P → c < n → b < P → fX2_bestToTry_8 (MK lo hi) X n (nI b) (nI (lf S g b)) (nI k) = some (nI (pfor (bst (lf S g)) k c b)) := by
    intro c
    induction c with
    | zero =>
      intro k n b hk hn hb
      obtain ⟨n, rfl⟩ : ∃ z, n = z + 1 := ⟨n - 1, by omega⟩
      rw [fX2_bestToTry_8, hx0, if_pos (nI_le (by omega) (by omega))]
      rfl
    | succ c ih =>
      intro k n b hk hn hb
      obtain ⟨n, rfl⟩ : ∃ z, n = z + 1 := ⟨n - 1, by omega⟩
      have l1 := lf_le S g b
      have l2 := lf_le S g k
      rw [fX2_bestToTry_8, hx0, if_neg (nI_ge (by omega) (by omega)), x_most hW hL (by omega) h1 h2 h3 hg, pfor, bst]
      simp only [pb_bs, nI_1, pb_le (show lf S g b < 2 ^ 31 by omega) (show lf S g k < 2 ^ 31 by omega)]
      by_cases e : lf S g b ≤ lf S g k
      · rw [if_pos e, if_pos e]; exact ih (k + 1) n b (by omega) (by omega) hb
      · rw [if_neg e, if_neg e]; exact ih (k + 1) n k (by omega) (by omega) (by omega)
  have l0 := lf_le S g 0
  have hf := x_most hW hL (q := 0) (by omega) h1 h2 h3 hg
  rw [nI_0] at hf
  have e21 : ¬ (21 : Int32) ≤ nI (lf S g 0) := nI_ge (a := lf S g 0) (b := 21) (by omega) (by omega)
  have e0 : ¬ nI P ≤ 0 := nI_nle (by omega) (by omega)
  rw [fX2_bestToTry, show mx_fu = 9999 + 1 from rfl, fX2_bestToTry_8, hx0, if_neg e0, hf]
  simp only [pb_bs]
  rw [if_neg e21]
  have k1 := key (P - 1) 1 9999 0 (by omega) (by omega) (by omega)
  exact k1
theorem m_134 {S : Nat → Int32} {t : Nat → Nat} {K P N : Nat} {r : Int32} (hW : wLd S P N) (hK : K ≤ 8) (hg : ∀ i, i < K → t (2 * i) < P) : ∀ c k n b Y, k + c = P → c < n → b < P → szY Y S t (2 * K) → Y.1 0 31 = nI b → ∃ Y', fX13_sizes_134 r n (nI k) Y = some (r, Y') ∧ Y' = mx_si Y 0 31 (nI (pfor (bst (lf S (isSz S t K))) k c b)) := by
  have hP := hW.2.1
  intro c
  induction c with
  | zero =>
    intro k n b Y hk hn hb hY h31
    obtain ⟨n, rfl⟩ : ∃ z, n = z + 1 := ⟨n - 1, by omega⟩
    rw [fX13_sizes_134, hY.2.2, hW.1, if_pos (nI_le (by omega) (by omega))]
    refine ⟨Y, rfl, ?_⟩
    rw [pfor, ← h31]
    refine Prod.ext ?_ rfl
    funext a j
    show _ = (if _ then _ else _)
    split
    · rename_i h; rw [h.1, h.2]
    · rfl
  | succ c ih =>
    intro k n b Y hk hn hb hY h31
    obtain ⟨n, rfl⟩ : ∃ z, n = z + 1 := ⟨n - 1, by omega⟩
    have l1 := lf_le S (isSz S t K) b
    have l2 := lf_le S (isSz S t K) k
    rw [fX13_sizes_134, hY.2.2, hW.1, if_neg (nI_ge (by omega) (by omega)), m_left hW hY hK hg (by omega), h31, m_left hW hY hK hg hb, pfor, bst]
    simp only [pb_bs, nI_1, pb_le (show lf S (isSz S t K) b < 2 ^ 31 by omega) (show lf S (isSz S t K) k < 2 ^ 31 by omega)]
    by_cases e : lf S (isSz S t K) b ≤ lf S (isSz S t K) k
    · rw [if_pos e, if_pos e]; exact ih (k + 1) n b Y (by omega) (by omega) hb hY h31
    · rw [if_neg e, if_neg e]
      obtain ⟨Y', a, b⟩ := ih (k + 1) n k (mx_si Y 0 31 (nI k)) (by omega) (by omega) (by omega) ⟨by rw [si_nj (by omega)]; exact hY.1, fun i hi => by rw [si_nk (by omega)]; exact hY.2.1 i hi, by rw [si_row (by omega)]; exact hY.2.2⟩ si_eq
      rw [si_si] at b
      exact ⟨Y', a, b⟩
/-- the mask, from v downward -/
def MKd (lo hi : Nat) : Nat → Int32 → Int32
  | 0, acc => acc
  | v + 1, acc => MKd lo hi v (if gI lo hi (v + 1) then acc ||| ((1 : Int32) <<< (nI (v + 1) &&& 31)) else acc)
theorem MKd_MK : ∀ lo, lo < 21 → ∀ hi, hi < 21 → 1 ≤ lo → lo ≤ hi → MKd lo hi 20 0 = MK lo hi := by decide +kernel
theorem szX_least {X : MM} {S : Nat → Int32} {t : Nat → Nat} {L P N : Nat} {z : Int32} (hW : wLd S P N) (h : szX X S t L P N) : szX (mx_si X 149 0 z) S t L P N := by
  obtain ⟨-, hP, -, hN, -⟩ := hW
  exact ⟨by rw [si_nk (by omega)]; exact h.1, fun i hi => by rw [si_nk (by omega)]; exact h.2.1 i hi, by rw [← rLo_9]; exact rLo_fr (fun k a b => si_row (by omega)) hP hN (fun _ _ => rfl) h.2.2⟩
theorem x_16z {S : Nat → Int32} {t : Nat → Nat} {K P N : Nat} {X : MM} (hW : wLd S P N) (hX : szX X S t (2 * K) P N) (hK : K ≤ 8) (hg : ∀ i, i < K → t (2 * i) < P) (hz : ∀ v, 1 ≤ v → v ≤ 20 → isSz S t K v = false) : ∀ v n, v ≤ 20 → v < n → fX2_readTries_16 n (0 : Int32) (nI v) X = fX2_readTries_64 (0 : Int32) X := by
  intro v
  induction v with
  | zero =>
    intro n _ hn
    obtain ⟨n, rfl⟩ : ∃ z, n = z + 1 := ⟨n - 1, by omega⟩
    rw [fX2_readTries_16, if_pos (by decide), if_pos rfl]
  | succ v ih =>
    intro n hv hn
    obtain ⟨n, rfl⟩ : ∃ z, n = z + 1 := ⟨n - 1, by omega⟩
    have n1 : ¬ nI (v + 1) < nI 1 := nI_nlt (by omega) (by omega)
    rw [← c1] at n1
    rw [fX2_readTries_16, if_neg n1, x_isSz hW hX hK hg hv, hz (v + 1) (by omega) hv]
    simp only [pb_bs]
    rw [if_pos b_f, pk_m1]
    exact ih n (by omega) (by omega)
theorem x_16 {S : Nat → Int32} {t : Nat → Nat} {K P N lo hi : Nat} {X : MM} (hW : wLd S P N) (hX : szX X S t (2 * K) P N) (hK : K ≤ 8) (hg : ∀ i, i < K → t (2 * i) < P) (h1 : 1 ≤ lo) (h2 : lo ≤ hi) (h3 : hi ≤ 20) (hz : ∀ v, 1 ≤ v → v ≤ 20 → isSz S t K v = gI lo hi v) : ∀ v n acc M, v ≤ 20 → v < n → (hi ≤ v → M = X) → (v < hi → M = mx_si X 149 0 (nI (max (v + 1) lo))) → fX2_readTries_16 n acc (nI v) M = fX2_readTries_16 1 (MKd lo hi v acc) (nI 0) (mx_si X 149 0 (nI lo)) := by
  intro v
  induction v with
  | zero =>
    intro n acc M _ hn z1 z2
    obtain ⟨n, rfl⟩ : ∃ z, n = z + 1 := ⟨n - 1, by omega⟩
    have ez := z2 (by omega)
    rw [show max (0 + 1) lo = lo by omega] at ez
    rw [ez, MKd, fX2_readTries_16, fX2_readTries_16, if_pos (show nI 0 < (1 : Int32) by decide), if_pos (show nI 0 < (1 : Int32) by decide)]
  | succ v ih =>
    intro n acc M hv hn z1 z2
    obtain ⟨n, rfl⟩ : ∃ z, n = z + 1 := ⟨n - 1, by omega⟩
    have hM : szX M S t (2 * K) P N := by
      by_cases a : hi ≤ v + 1
      · rw [z1 a]; exact hX
      · rw [z2 (by omega)]; exact szX_least hW hX
    have n1 : ¬ nI (v + 1) < nI 1 := nI_nlt (by omega) (by omega)
    rw [← c1] at n1
    rw [fX2_readTries_16, if_neg n1, x_isSz hW hM hK hg hv, hz (v + 1) (by omega) hv, MKd]
    simp only [pb_bs]
    rw [pk_m1]
    rcases Bool.eq_false_or_eq_true (gI lo hi (v + 1)) with hgk | hgk
    · rw [hgk, if_neg b_t, if_pos rfl]
      rw [gI, Bool.and_eq_true, decide_eq_true_eq, decide_eq_true_eq] at hgk
      refine ih n _ _ (by omega) (by omega) (fun h => by omega) (fun h => ?_)
      rw [show max (v + 1) lo = v + 1 by omega]
      by_cases a : hi ≤ v + 1
      · rw [z1 a]
      · rw [z2 (by omega), si_si]
    · rw [hgk, if_pos b_f, if_neg (by simp)]
      have hgk' : ¬ (lo ≤ v + 1 ∧ v + 1 ≤ hi) := fun h => by
        rw [gI, decide_eq_true h.1, decide_eq_true h.2] at hgk
        exact absurd hgk (by decide)
      refine ih n _ _ (by omega) (by omega) (fun h => z1 (by omega)) (fun h => ?_)
      rw [show max (v + 1) lo = max (v + 1 + 1) lo by omega]
      exact z2 (by omega)
theorem m_85 {S : Nat → Int32} {t : Nat → Nat} {K P N : Nat} {Y : MM} (hW : wLd S P N) (hY : szY Y S t (2 * K)) (hK : K ≤ 8) (hg : ∀ i, i < K → t (2 * i) < P) (hz : ∀ v, 1 ≤ v → v ≤ 20 → isSz S t K v = false) : ∀ v n, v ≤ 20 → v < n → fX13_sizes_85 n (0 : Int32) (0 : Int32) (nI v) Y = some (0, Y) := by
  intro v
  induction v with
  | zero =>
    intro n _ hn
    obtain ⟨n, rfl⟩ : ∃ z, n = z + 1 := ⟨n - 1, by omega⟩
    rw [fX13_sizes_85, if_pos (by decide), if_pos rfl]
  | succ v ih =>
    intro n hv hn
    obtain ⟨n, rfl⟩ : ∃ z, n = z + 1 := ⟨n - 1, by omega⟩
    rw [fX13_sizes_85, if_neg (nI_nle (by omega) (by omega)), m_isSz hW hY hK hg, hz (v + 1) (by omega) hv]
    simp only [pb_bs]
    rw [if_pos b_f, pk_m1]
    exact ih n (by omega) (by omega)
theorem m_85s {S : Nat → Int32} {t : Nat → Nat} {K P N lo hi : Nat} {Y : MM} (hW : wLd S P N) (hY : szY Y S t (2 * K)) (hK : K ≤ 8) (hg : ∀ i, i < K → t (2 * i) < P) (h1 : 1 ≤ lo) (h2 : lo ≤ hi) (h3 : hi ≤ 20) (hz : ∀ v, 1 ≤ v → v ≤ 20 → isSz S t K v = gI lo hi v) : ∀ v n z, v ≤ 20 → v < n → (hi ≤ v → z = 0) → (v < hi → z = max (v + 1) lo) → fX13_sizes_85 n (nI (hi - max v (lo - 1))) (nI z) (nI v) Y = fX13_sizes_134 (nI (hi - lo + 1)) mx_fu (1 : Int32) (mx_si (mx_si (mx_si Y 0 32 (1 : Int32)) 0 30 (nI lo)) 0 31 (0 : Int32)) := by
  intro v
  induction v with
  | zero =>
    intro n z _ hn z1 z2
    obtain ⟨n, rfl⟩ : ∃ z, n = z + 1 := ⟨n - 1, by omega⟩
    have ez := z2 (by omega)
    rw [fX13_sizes_85, if_pos (by decide), if_neg (nI_ne0 (by omega) (by omega)), ez, show max (0 + 1) lo = lo by omega, show hi - max 0 (lo - 1) = hi - lo + 1 by omega]
  | succ v ih =>
    intro n z hv hn z1 z2
    obtain ⟨n, rfl⟩ : ∃ z, n = z + 1 := ⟨n - 1, by omega⟩
    rw [fX13_sizes_85, if_neg (nI_nle (by omega) (by omega)), m_isSz hW hY hK hg, hz (v + 1) (by omega) hv, gI]
    simp only [pb_bs]
    rw [pk_m1, nI_1]
    by_cases a : lo ≤ v + 1
    · by_cases b : v + 1 ≤ hi
      · rw [show (decide (lo ≤ v + 1) && decide (v + 1 ≤ hi)) = true by simp [a, b], if_neg b_t]
        have := ih n (v + 1) (by omega) (by omega) (fun h => by omega) (fun h => by omega)
        rw [show hi - max v (lo - 1) = hi - max (v + 1) (lo - 1) + 1 by omega] at this
        exact this
      · rw [show (decide (lo ≤ v + 1) && decide (v + 1 ≤ hi)) = false by simp [b], if_pos b_f]
        have := ih n z (by omega) (by omega) (fun h => z1 (by omega)) (fun h => by omega)
        rw [show hi - max v (lo - 1) = hi - max (v + 1) (lo - 1) by omega] at this
        exact this
    · rw [show (decide (lo ≤ v + 1) && decide (v + 1 ≤ hi)) = false by simp [a], if_pos b_f]
      have := ih n z (by omega) (by omega) (fun h => by omega) (fun h => by have := z2 (by omega); omega)
      rw [show hi - max v (lo - 1) = hi - max (v + 1) (lo - 1) by omega] at this
      exact this
theorem q_sizes {X Y : MM} {P N : Nat} (h : Inv X Y P N) : RW (fX12_sizes X) (fX13_sizes Y) := by
  have hP := h.p7
  have hN := h.n7
  obtain ⟨L, hL, t1, t2, t3⟩ := h.tp
  -- the bytes
  have hb : ∀ i, ∃ j : Nat, j < 256 ∧ Y.1 1 i &&& (255 : Int32) = nI j := fun i => pk_andE (Y.1 1 i) 8 (by decide)
  obtain ⟨t, ht⟩ := Classical.axiomOfChoice hb
  rw [fX12_sizes, fX13_sizes, fX13_taken]
  simp only [pb_bs]
  generalize hY0 : mx_si (mx_si (mx_si (mx_si (mx_si Y 0 0 (0 : Int32)) 0 3 ((mx_si Y 0 0 (0 : Int32)).1 0 2)) 0 2 (0 : Int32)) 0 4 (0 : Int32)) 0 5 (940 : Int32) = Y0
  have g3 : Y0.1 0 3 = nI L := by
    rw [← hY0, si_nj (by omega), si_nj (by omega), si_nj (by omega), si_eq, si_nj (by omega), t2]
  have g2 : Y0.1 0 2 = 0 := by rw [← hY0, si_nj (by omega), si_nj (by omega), si_eq]
  have gk : ∀ k, k ≠ 0 → Y0.1 k = Y.1 k := fun k hk => by rw [← hY0, si_row hk, si_row hk, si_row hk, si_row hk, si_row hk]
  have gj : ∀ j, 6 ≤ j → Y0.1 0 j = Y.1 0 j := fun j hj => by rw [← hY0, si_nj (by omega), si_nj (by omega), si_nj (by omega), si_nj (by omega), si_nj (by omega)]
  have gq : yKq Y Y0 := by
    rw [← hY0]
    exact ((((yKq.rf.si (by omega)).si (by omega)).si (by omega)).si (by omega)).si (by omega)
  have szx : szX X (Y.1 2) t L P N := ⟨t1, fun i hi => by rw [t3 i hi]; exact (ht i).2, h.rl⟩
  have szy : szY Y0 (Y.1 2) t L := ⟨g3, fun i hi => by rw [gk 1 (by omega)]; exact (ht i).2, gk 2 (by omega)⟩
  -- the end where nothing is changed but the tape
  have same : Inv (mx_si X 1 1 (0 : Int32)) Y0 P N := by
    refine Inv.gen (xKq.rf.si (by omega)) gq h ⟨0, by omega, si_eq, g2, fun i hi => by omega⟩ ?_ ?_ ?_
    · rw [si_nk (by omega), gj 15 (by omega)]; exact h.ft
    · exact rFi_fr (si_row (by omega)) (gj 32 (by omega)) (gj 30 (by omega)) (gj 31 (by omega)) h.fi
    · exact rBk_fr (fun j _ => si_nk (by omega)) (gj 41 (by omega)) (gk 16 (by omega)) h.bk
  have e216 : fX13_isIn (nI L) (2 : Int32) (16 : Int32) Y0 = some (decide (2 ≤ L) && decide (L ≤ 16)) := m_isIn (a := L) (lo := 2) (hi := 16) (by omega) (by omega) (by omega)
  rw [g3, e216, fX2_readTries, fX2_areTries, t1, c2, c16, pk_rem (by omega) (by omega) (by omega)]
  simp only [pb_bs, pb_lt (show L < 2 ^ 31 by omega) (show 2 < 2 ^ 31 by omega), pb_lt (show 16 < 2 ^ 31 by omega) (show L < 2 ^ 31 by omega)]
  by_cases l1 : L < 2
  · rw [if_pos l1, show (decide (2 ≤ L) && decide (L ≤ 16)) = false by simp; omega, if_pos b_f]
    simp only [pb_bs]
    rw [if_pos b_f]
    simp only [pb_bs, fX10_clear]
    exact ⟨_, _, _, rfl, rfl, P, N, same⟩
  by_cases l2 : 16 < L
  · rw [if_neg l1, if_pos l2, show (decide (2 ≤ L) && decide (L ≤ 16)) = false by simp; omega, if_pos b_f]
    simp only [pb_bs]
    rw [if_pos b_f]
    simp only [pb_bs, fX10_clear]
    exact ⟨_, _, _, rfl, rfl, P, N, same⟩
  rw [if_neg l1, if_neg l2, show (decide (2 ≤ L) && decide (L ≤ 16)) = true by simp; omega, if_neg b_t]
  by_cases l3 : L % 2 = 0
  rotate_left
  · have l4 : L % 2 = 1 := by omega
    have n1 : ¬ nI 1 = 0 := by decide
    rw [l4, if_neg n1, if_pos (show nI 1 = 1 from rfl)]
    simp only [pb_bs]
    rw [if_pos b_f]
    simp only [pb_bs, fX10_clear]
    exact ⟨_, _, _, rfl, rfl, P, N, same⟩
  obtain ⟨K, rfl⟩ : ∃ K, L = 2 * K := ⟨L / 2, by omega⟩
  have n0 : ¬ nI 0 = 1 := by decide
  have htl : ∀ i, t i < 256 := fun i => (ht i).1
  rw [l3, if_pos nI_0, if_neg n0, x_tries h.ld szx (by omega) htl, m_tries39 h.ld szy (by omega) htl]
  simp only [pb_bs]
  by_cases hbad : pfst (badT t P) 0 K = K
  rotate_left
  · rw [if_neg hbad, decide_eq_false hbad, if_pos b_f]
    simp only [pb_bs, fX10_clear]
    exact ⟨_, _, _, rfl, rfl, P, N, same⟩
  rw [if_pos hbad, decide_eq_true hbad, if_neg b_t]
  have hall := (pfst_all (badT t P) K 0).mp (by omega)
  have hg : ∀ i, i < K → t (2 * i) < P := fun i hi => by
    have := hall i (by omega) (by omega)
    simp only [badT, Bool.not_eq_false', Bool.and_eq_true, decide_eq_true_eq] at this
    exact this.1
  have hK8 : K ≤ 8 := by omega
  rcases convex (isSz_conv h.ld hg) with hz | ⟨lo, hi, v1, v2, v3, hz⟩
  · have x16 := x_16z h.ld szx hK8 hg hz 20 mx_fu (by omega) (by unfold mx_fu; omega)
    have x16 : fX2_readTries_16 mx_fu 0 20 X = _ := x16
    have y85 := m_85 h.ld szy hK8 hg hz 20 mx_fu (by omega) (by unfold mx_fu; omega)
    have y85 : fX13_sizes_85 mx_fu 0 0 20 Y0 = _ := y85
    rw [x16, y85, fX2_readTries_64]
    have bc : fJ6_bitCount_0f7a4 0 X = some (nI 0) := x_bitCount (m := 0) (by omega)
    rw [bc]
    simp only [pb_bs, fX10_clear]
    exact ⟨_, _, _, rfl, rfl, P, N, same⟩
  · have x16 := x_16 h.ld szx hK8 hg v1 v2 v3 hz 20 mx_fu 0 X (by omega) (by unfold mx_fu; omega) (fun _ => rfl) (fun h => by omega)
    have x16 : fX2_readTries_16 mx_fu 0 20 X = _ := x16
    have hP1 : 1 ≤ P := by
      have := hg 0 (by omega)
      omega
    have y85 := m_85s h.ld szy hK8 hg v1 v2 v3 hz 20 mx_fu 0 (by omega) (by unfold mx_fu; omega) (fun _ => rfl) (fun h => by omega)
    rw [show hi - max 20 (lo - 1) = 0 by omega] at y85
    have y85 : fX13_sizes_85 mx_fu 0 0 20 Y0 = _ := y85
    have sY : szY (mx_si (mx_si (mx_si Y0 0 32 (1 : Int32)) 0 30 (nI lo)) 0 31 (0 : Int32)) (Y.1 2) t (2 * K) := ⟨by rw [si_nj (by omega), si_nj (by omega), si_nj (by omega)]; exact szy.1, fun i hi => by rw [si_nk (by omega), si_nk (by omega), si_nk (by omega)]; exact szy.2.1 i hi, by rw [si_row (by omega), si_row (by omega), si_row (by omega)]; exact szy.2.2⟩
    obtain ⟨Y9, y1, y2⟩ := m_134 (r := nI (hi - lo + 1)) h.ld hK8 hg (P - 1) 1 mx_fu 0 _ (by omega) (by unfold mx_fu; omega) (by omega) sY si_eq
    have y1 : fX13_sizes_134 (nI (hi - lo + 1)) mx_fu (1 : Int32) _ = _ := y1
    rw [x16, MKd_MK lo (by omega) hi (by omega) v1 v2, fX2_readTries_16, if_pos (show nI 0 < (1 : Int32) by decide), if_neg (MK_ne lo (by omega) hi (by omega) v1 v2), y85, y1]
    rw [x_best h.ld (X := mx_si X 149 0 (nI lo)) (by rw [← rLo_9]; exact rLo_fr (fun k a b => si_row (by omega)) hP hN (fun _ _ => rfl) h.rl) hP1 v1 v2 v3 hz]
    simp only [pb_bs]
    rw [fX2_readTries_64]
    have bc : ∀ Z, fJ6_bitCount_0f7a4 (MK lo hi) Z = some (nI (hi - lo + 1)) := fun Z => MK_cnt lo (by omega) hi (by omega) v1 v2
    rw [bc]
    simp only [pb_bs, fX10_clear]
    refine ⟨_, _, _, rfl, rfl, P, N, ?_⟩
    rw [y2, si_si]
    generalize pfor (bst (lf (Y.1 2) (isSz (Y.1 2) t K))) 1 (P - 1) 0 = B
    refine Inv.gen (((xKq.rf.si (by omega)).si (by omega)).si (by omega)) (((gq.si (by omega)).si (by omega)).si (by omega)) h ⟨0, by omega, si_eq, ?_, fun i hi => by omega⟩ ?_ (Or.inr ⟨?_, ?_, ?_⟩) ?_
    · rw [si_nj (by omega), si_nj (by omega), si_nj (by omega)]; exact g2
    · rw [si_nk (by omega), si_nk (by omega), si_nk (by omega), si_nj (by omega), si_nj (by omega), si_nj (by omega), gj 15 (by omega)]; exact h.ft
    · rw [si_nj (by omega), si_nj (by omega), si_eq]
    · rw [si_nk (by omega), si_nj (by omega), si_eq, si_nj (by omega), si_eq]
    · rw [si_nk (by omega), si_eq, si_eq]
    · refine rBk_fr (fun j _ => ?_) ?_ ?_ h.bk
      · rw [si_nk (by omega), si_nk (by omega), si_nk (by omega)]
      · rw [si_nj (by omega), si_nj (by omega), si_nj (by omega)]; exact gj 41 (by omega)
      · rw [si_row (by omega), si_row (by omega), si_row (by omega)]; exact gk 16 (by omega)
