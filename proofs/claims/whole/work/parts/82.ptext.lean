/-! the text: letters, digits, blanks -/
def tS (c : Nat) : Bool := decide (97 ≤ c) && decide (c ≤ 122)
def tD (c : Nat) : Bool := decide (48 ≤ c) && decide (c ≤ 57)
def tA (c : Nat) : Bool := tS c || tD c
def tB (c : Nat) : Bool := decide (c = 32) || decide (c = 10)
theorem rng2 {c lo hi : Nat} (hc : c < 2 ^ 31) (hl : lo < 2 ^ 31) (hh : hi < 2 ^ 31) : (if nI c < nI lo then some false else if nI hi < nI c then some false else some true : Option Bool) = some (decide (lo ≤ c) && decide (c ≤ hi)) := by
  simp only [pb_lt hc hl, pb_lt hh hc]
  by_cases h1 : c < lo
  · rw [if_pos h1]
    have : ¬ lo ≤ c := by omega
    simp [this]
  · rw [if_neg h1]
    have h1' : lo ≤ c := by omega
    by_cases h2 : hi < c
    · rw [if_pos h2]
      have : ¬ c ≤ hi := by omega
      simp [this]
    · rw [if_neg h2]
      have : c ≤ hi := by omega
      simp [h1', this]
theorem x_letter {c : Nat} {M : MM} (hc : c < 256) : fX7_isLetter (nI c) M = some (tS c) := rng2 (lo := 97) (hi := 122) (by omega) (by omega) (by omega)
theorem x_digit {c : Nat} {M : MM} (hc : c < 256) : fX7_isDigit (nI c) M = some (tD c) := rng2 (lo := 48) (hi := 57) (by omega) (by omega) (by omega)
theorem m_small {c : Nat} {M : MM} (hc : c < 256) : fX13_isSmall (nI c) M = some (tS c) := rng2 (lo := 97) (hi := 122) (by omega) (by omega) (by omega)
theorem m_digit {c : Nat} {M : MM} (hc : c < 256) : fX13_isDigit (nI c) M = some (tD c) := rng2 (lo := 48) (hi := 57) (by omega) (by omega) (by omega)
theorem x_blank {c : Nat} {M : MM} (hc : c < 256) : fX7_isBlank (nI c) M = some (tB c) := by
  rw [fX7_isBlank, c32, c10]
  simp only [propext (nI_eq (a := c) (b := 32) (by omega) (by omega)), propext (nI_eq (a := c) (b := 10) (by omega) (by omega))]
  unfold tB
  by_cases h1 : c = 32
  · simp [h1]
  · by_cases h2 : c = 10 <;> simp [h1, h2]
def txX (X : MM) (t : Nat → Nat) (L : Nat) : Prop := X.1 1 1 = nI L ∧ L ≤ 940 ∧ ∀ i, i < L → X.1 2 i &&& (255 : Int32) = nI (t i) ∧ t i < 256
theorem x_at2 {X : MM} {t : Nat → Nat} {L i : Nat} (h : txX X t L) (hi : i < L) : fX10_at (nI i) X = some (nI (t i)) := by
  obtain ⟨h1, h2, h3⟩ := h
  rw [fX10_at, h1, if_neg (nI_pos (by omega)), if_pos (nI_lt hi (by omega)), pb_gd (by omega) (by omega), nI_clamp (by omega), (h3 i hi).1]
/-! the token at a place -/
def skp (t : Nat → Nat) (L i : Nat) : Nat := pfst (fun j => !tB (t j)) i (L - i)
def rne (t : Nat → Nat) (L i : Nat) : Nat := pfst (fun j => !tA (t j)) i (L - i)
def cS (t : Nat → Nat) : Nat → Nat → Nat
  | _, 0 => 0
  | i, c + 1 => (if tS (t i) then 1 else 0) + cS t (i + 1) c
def cD (t : Nat → Nat) : Nat → Nat → Nat
  | _, 0 => 0
  | i, c + 1 => (if tS (t i) then 0 else 1) + cD t (i + 1) c
def fN (t : Nat → Nat) : Nat → Nat → Int64 → Int64
  | _, 0, x => x
  | i, c + 1, x => fN t (i + 1) c (if tS (t i) then x * (32 : Int64) + (((nI (t i) - (97 : Int32)) + (1 : Int32)).toInt64) else x)
def fV (t : Nat → Nat) : Nat → Nat → Int32 → Int32
  | _, 0, x => x
  | i, c + 1, x => fV t (i + 1) c (if tS (t i) then x else x * (10 : Int32) + (nI (t i) - (48 : Int32)))
/-- kind of the token that begins at j (no blank there): 0 none, 1 the end, 2 a word, 4 a number, 5 a sign -/
def kdJ (t : Nat → Nat) (L mo j : Nat) : Nat := if mo < L ∧ mo ≤ j then 0 else if L ≤ j then 1 else if tA (t j) then if cD t j (rne t L j - j) = 0 ∧ cS t j (rne t L j - j) ≤ 7 then 2 else if cS t j (rne t L j - j) = 0 ∧ cD t j (rne t L j - j) ≤ 3 then 4 else 0 else 5
def stJ (L mo j : Nat) : Nat := if mo < L ∧ mo ≤ j then mo else j
def enJ (t : Nat → Nat) (L mo j : Nat) : Nat := if mo < L ∧ mo ≤ j then j else if L ≤ j then j else if tA (t j) then rne t L j else j + 1
theorem pfst_pre {f : Nat → Bool} {i c : Nat} : (∀ j, i ≤ j → j < pfst f i c → f j = false) ∧ i ≤ pfst f i c ∧ pfst f i c ≤ i + c ∧ (pfst f i c < i + c → f (pfst f i c) = true) := ⟨fun j h1 h2 => pfst_min f c i j h1 h2, (pfst_le f c i).1, (pfst_le f c i).2, pfst_is f c i⟩
/-! the class: a run of letters and digits -/
theorem x_run13 {X : MM} {t : Nat → Nat} {L e : Nat} {i1 : Int32} (h : txX X t L) (he : e ≤ L) (hA : ∀ j, j < e → True) (hs : e < L → tA (t e) = false) : ∀ c i f nl nd nm v, i + c = e → (∀ j, i ≤ j → j < e → tA (t j) = true) → c < f → fX7_scanRun_13 i1 f (nI nl) (nI nd) nm v (nI i) X = fX7_scanRun_97 i1 (nI (nl + cS t i c)) (nI (nd + cD t i c)) (fN t i c nm) (fV t i c v) X := by
  have hL := h.2.1
  intro c
  induction c with
  | zero =>
    intro i f nl nd nm v hi hr hf
    obtain ⟨f, rfl⟩ : ∃ z, f = z + 1 := ⟨f - 1, by omega⟩
    have : i = e := by omega
    subst this
    rw [fX7_scanRun_13, h.1, cS, cD, fN, fV, Nat.add_zero, Nat.add_zero]
    by_cases e1 : i < L
    · have hb := (h.2.2 i e1).2
      have ha := hs e1
      unfold tA at ha
      rw [Bool.or_eq_false_iff] at ha
      rw [if_neg (nI_ge e1 (by omega)), x_at2 h e1]
      simp only [pb_bs]
      rw [x_letter hb, x_digit hb, ha.1, ha.2]
      simp only [pb_bs]
      rw [if_pos b_f, if_pos b_f]
    · rw [if_pos (nI_le (by omega) (by omega))]
  | succ c ih =>
    intro i f nl nd nm v hi hr hf
    obtain ⟨f, rfl⟩ : ∃ z, f = z + 1 := ⟨f - 1, by omega⟩
    have e1 : i < L := by omega
    have hb := (h.2.2 i e1).2
    have ha := hr i (Nat.le_refl _) (by omega)
    rw [fX7_scanRun_13, h.1, if_neg (nI_ge e1 (by omega)), x_at2 h e1]
    simp only [pb_bs]
    rw [x_letter hb, x_digit hb]
    simp only [pb_bs]
    rw [nI_1, nI_1, nI_1, cS, cD, fN, fV]
    cases hS : tS (t i)
    · have hD : tD (t i) = true := by unfold tA at ha; rw [hS] at ha; simpa using ha
      rw [if_pos b_f, hD, if_neg b_t]
      simp only [Bool.false_eq_true, ↓reduceIte]
      rw [ih (i + 1) f nl (nd + 1) nm _ (by omega) (fun j h1 h2 => hr j (by omega) h2) (by omega), Nat.zero_add, Nat.add_assoc]
    · rw [if_neg b_t]
      simp only [↓reduceIte]
      rw [ih (i + 1) f (nl + 1) nd _ v (by omega) (fun j h1 h2 => hr j (by omega) h2) (by omega), Nat.zero_add, Nat.add_assoc]
def cod (nm : Int64) : Nat := if pfst (fun w => decide (xwc w = nm)) 0 24 < 24 then pfst (fun w => decide (xwc w = nm)) 0 24 else 0
theorem x_coded {nm : Int64} {M : MM} : fX11_coded nm M = some (cod nm) := by
  refine (loop_fst (F := fX11_coded_2 nm M) (f := fun w => decide (xwc w = nm)) (N := 24) (fin := fun k => some (if k < 24 then k else 0)) (by omega) (fun n => ?_) (fun n k hk => ?_)).trans rfl
  · rw [fX11_coded_2, c24, if_pos (nI_le (by omega) (by omega)), if_neg (by omega)]
  · rw [fX11_coded_2, c24, if_neg (nI_ge hk (by omega)), pb_gd hk (by omega), nI_clamp (by omega), if_pos hk, pb_gd hk (by omega), nI_1, if_pos hk]
    simp only [propext (lcmp0 (x := xwc k) (y := nm)), decide_eq_true_eq]
theorem xwc_inj : ∀ a, a < 24 → ∀ b, b < 24 → xwc a = xwc b → a = b := by decide
theorem cod_lt (nm : Int64) : cod nm < 24 := by
  unfold cod
  split
  · assumption
  · omega
theorem cod_iff {nm : Int64} {w : Nat} (h0 : nm ≠ 0) (hw : 1 ≤ w) (hw2 : w < 24) : cod nm = w ↔ nm = xwc w := by
  constructor
  · intro e
    unfold cod at e
    split at e
    · rename_i hlt
      have := pfst_is (fun w => decide (xwc w = nm)) 24 0 (by omega)
      rw [e] at this
      exact (of_decide_eq_true this).symm
    · omega
  · intro e
    have hf : pfst (fun w => decide (xwc w = nm)) 0 24 = w := pfst_eq (by simp [e]) 24 0 (by omega) (by omega) (fun j _ hj => by
      simp only [decide_eq_false_iff_not]
      intro x
      have := xwc_inj j (by omega) w hw2 (x.trans e)
      omega)
    unfold cod
    rw [hf, if_pos hw2]
/-! what a scan writes: the places s of the rows 4 to 8 -/
def scF (s : Nat) (X X' : MM) : Prop := (∀ a b, ¬ ((a = 4 ∨ a = 5 ∨ a = 6) ∧ b = s) → X'.1 a b = X.1 a b) ∧ (∀ a b, ¬ (a = 7 ∧ b = s) → X'.2.1 a b = X.2.1 a b) ∧ ∀ a b, ¬ (a = 8 ∧ b = s) → X'.2.2 a b = X.2.2 a b
theorem scF.rf {s : Nat} {X : MM} : scF s X X := ⟨fun _ _ _ => rfl, fun _ _ _ => rfl, fun _ _ _ => rfl⟩
theorem scF.si {s k : Nat} {X X' : MM} {v : Int32} (h : scF s X X') (hk : k = 4 ∨ k = 5 ∨ k = 6) : scF s X (mx_si X' k s v) := ⟨fun a b hn => by
  rw [← h.1 a b hn]
  show (if _ then _ else _) = _
  rw [if_neg (by omega)], h.2.1, h.2.2⟩
theorem scF.sl {s : Nat} {X X' : MM} {v : Int64} (h : scF s X X') : scF s X (mx_sl X' 7 s v) := ⟨h.1, fun a b hn => by
  rw [← h.2.1 a b hn]
  show (if _ then _ else _) = _
  rw [if_neg hn], h.2.2⟩
theorem scF.sr {s v : Nat} {X X' : MM} (h : scF s X X') : scF s X (mx_sr X' 8 s v) := ⟨h.1, h.2.1, fun a b hn => by
  rw [← h.2.2 a b hn]
  show (if _ then _ else _) = _
  rw [if_neg hn]⟩
theorem sl_i {M : MM} {k j a b : Nat} {v : Int64} : (mx_sl M k j v).1 a b = M.1 a b := rfl
theorem sr_i {M : MM} {k j a b v : Nat} : (mx_sr M k j v).1 a b = M.1 a b := rfl
theorem sl_eq {M : MM} {k j : Nat} {v : Int64} : (mx_sl M k j v).2.1 k j = v := by simp [mx_sl]
theorem sr_eq {M : MM} {k j v : Nat} : (mx_sr M k j v).2.2 k j = v := by simp [mx_sr]
theorem si_l2 {M : MM} {a b k j : Nat} {v : Int32} : (mx_si M a b v).2.1 k j = M.2.1 k j := rfl
theorem si_r2 {M : MM} {a b k j : Nat} {v : Int32} : (mx_si M a b v).2.2 k j = M.2.2 k j := rfl
theorem sl_r2 {M : MM} {a b k j : Nat} {v : Int64} : (mx_sl M a b v).2.2 k j = M.2.2 k j := rfl
theorem sr_l2 {M : MM} {a b k j v : Nat} : (mx_sr M a b v).2.1 k j = M.2.1 k j := rfl
/-- the class's description of the token at j, at the place s -/
def dC (t : Nat → Nat) (L mo j s : Nat) (X : MM) : Prop := X.1 5 s = nI (stJ L mo j) ∧ X.2.2 8 s < 24 ∧
  (kdJ t L mo j = 0 → X.1 4 s = 0 ∧ X.2.2 8 s = 0) ∧ (kdJ t L mo j = 1 → X.1 4 s = 1 ∧ X.2.2 8 s = 0) ∧
  (kdJ t L mo j = 2 → X.2.1 7 s = fN t j (rne t L j - j) 0 ∧ X.2.2 8 s = cod (fN t j (rne t L j - j) 0) ∧ X.1 4 s = if cod (fN t j (rne t L j - j) 0) = 0 then 2 else 3) ∧
  (kdJ t L mo j = 4 → X.1 4 s = 4 ∧ X.1 6 s = fV t j (rne t L j - j) 0 ∧ X.2.2 8 s = 0) ∧
  (kdJ t L mo j = 5 → X.1 4 s = 5 ∧ X.1 6 s = nI (t j) ∧ X.2.2 8 s = 0)
theorem x_run97 {X : MM} {nl nd s : Nat} {nm : Int64} {v i1 : Int32} (h6 : X.1 3 6 = nI s) (hs : s < 941) (hl : nl < 2 ^ 30) (hd : nd < 2 ^ 30) : fX7_scanRun_97 i1 (nI nl) (nI nd) nm v X = some ((i1 + nI nl) + nI nd, if nd = 0 ∧ nl ≤ 7 then mx_si (mx_sr (mx_si (mx_sl X 7 s nm) 6 s v) 8 s (cod nm)) 4 s (if cod nm = 0 then 2 else 3) else mx_si (mx_si (mx_sl X 7 s nm) 6 s v) 4 s (if nl = 0 ∧ nd ≤ 3 then 4 else 0)) := by
  have e0 : (nI nd = 0) = (nd = 0) := propext (nI_eq (b := 0) (by omega) (by omega))
  have e1 : (nI nl = 0) = (nl = 0) := propext (nI_eq (b := 0) (by omega) (by omega))
  have e7 : ((7 : Int32) < nI nl) = (7 < nl) := pb_lt (a := 7) (by omega) (by omega)
  have e3 : ((3 : Int32) < nI nd) = (3 < nd) := pb_lt (a := 3) (by omega) (by omega)
  have hin : mx_in (nI s) 941 = true := pb_in hs (by omega)
  have hcl : (nI s).toNatClampNeg = s := nI_clamp (by omega)
  have hc := cod_lt nm
  have n36 : (3 : Nat) ≠ 6 := by omega
  have n34 : (3 : Nat) ≠ 4 := by omega
  rw [fX7_scanRun_97]
  simp only [sl_i, sr_i, si_nk n36, h6, hin, hcl, ↓reduceIte, x_coded, pb_bs, sr_eq, hc, e0, e7, fX7_scanRun_175, fX7_scanRun_171, fX7_scanRun_196, fX7_scanRun_197, fX7_scanRun_198, e1, e3]
  by_cases d0 : nd = 0
  · by_cases l7 : 7 < nl
    · have : ¬ nl ≤ 7 := by omega
      have : ¬ nl = 0 := by omega
      simp [d0, *]
    · have h7 : nl ≤ 7 := by omega
      simp only [d0, l7, h7, ↓reduceIte, and_self]
      by_cases c0 : cod nm = 0 <;> simp [c0]
  · simp only [d0, ↓reduceIte, false_and]
    by_cases l0 : nl = 0
    · by_cases d3 : 3 < nd
      · have : ¬ nd ≤ 3 := by omega
        simp [l0, *]
      · have : nd ≤ 3 := by omega
        simp [l0, d3, this]
    · simp [l0]
