/-! the class: one scan -/
theorem cSD (t : Nat → Nat) : ∀ c i, cS t i c + cD t i c = c := by
  intro c
  induction c with
  | zero => intro i; rfl
  | succ c ih =>
    intro i
    have := ih (i + 1)
    rw [cS, cD]
    cases tS (t i) <;> simp only [Bool.false_eq_true, ↓reduceIte] <;> omega
theorem x_skip {X : MM} {t : Nat → Nat} {L : Nat} {i1 : Int32} (h : txX X t L) : ∀ c i f, i + c = L → c < f → fX7_scan_2 i1 f (nI i) X = fX7_scan_33 i1 (nI (pfst (fun j => !tB (t j)) i c)) X := by
  have hL := h.2.1
  intro c
  induction c with
  | zero =>
    intro i f hi hf
    obtain ⟨f, rfl⟩ : ∃ z, f = z + 1 := ⟨f - 1, by omega⟩
    rw [fX7_scan_2, h.1, if_pos (nI_le (by omega) (by omega)), pfst]
  | succ c ih =>
    intro i f hi hf
    obtain ⟨f, rfl⟩ : ∃ z, f = z + 1 := ⟨f - 1, by omega⟩
    have e1 : i < L := by omega
    have hb := (h.2.2 i e1).2
    rw [fX7_scan_2, h.1, if_neg (nI_ge e1 (by omega)), x_at2 h e1]
    simp only [pb_bs]
    rw [x_blank hb]
    simp only [pb_bs]
    rw [pfst]
    cases hB : tB (t i)
    · rw [if_pos b_f, if_pos (by simp)]
    · rw [if_neg b_t, if_neg (by simp), nI_1, ih (i + 1) f (by omega) (by omega)]
theorem x_s33 {X : MM} {t : Nat → Nat} {L s mo j : Nat} {i1 : Int32} (h : txX X t L) (h6 : X.1 3 6 = nI s) (hs : s < 941) (h8 : X.1 3 8 = nI mo) (hm : mo ≤ 1000) (hj : j ≤ L) : fX7_scan_33 i1 (nI j) X = if mo < L ∧ mo ≤ j then some (nI j, mx_si (mx_si (mx_sr (mx_si X 5 s (nI j)) 8 s 0) 5 s (nI mo)) 4 s 0) else fX7_scan_103 i1 (nI j) (mx_sr (mx_si X 5 s (nI j)) 8 s 0) := by
  have hL := h.2.1
  have hin : mx_in (nI s) 941 = true := pb_in hs (by omega)
  have hcl : (nI s).toNatClampNeg = s := nI_clamp (by omega)
  have n35 : (3 : Nat) ≠ 5 := by omega
  have n15 : (1 : Nat) ≠ 5 := by omega
  have e1 : (nI L ≤ nI mo) = (L ≤ mo) := pb_le (by omega) (by omega)
  have e2 : (nI j < nI mo) = (j < mo) := pb_lt (by omega) (by omega)
  rw [fX7_scan_33]
  simp only [sr_i, si_nk n35, si_nk n15, h6, h8, h.1, hin, hcl, ↓reduceIte, e1, e2]
  by_cases a : L ≤ mo
  · have : ¬ (mo < L ∧ mo ≤ j) := by omega
    rw [if_pos a, if_neg this]
  · rw [if_neg a]
    by_cases b : j < mo
    · have : ¬ (mo < L ∧ mo ≤ j) := by omega
      rw [if_pos b, if_neg this]
    · have : mo < L ∧ mo ≤ j := by omega
      rw [if_neg b, if_pos this]
theorem rne_sp {t : Nat → Nat} {L j : Nat} (hj : j ≤ L) : j ≤ rne t L j ∧ rne t L j ≤ L ∧ (rne t L j < L → tA (t (rne t L j)) = false) ∧ (∀ k, j ≤ k → k < rne t L j → tA (t k) = true) ∧ (j < L → tA (t j) = true → j < rne t L j) := by
  obtain ⟨a, b, c, d⟩ := pfst_pre (f := fun k => !tA (t k)) (i := j) (c := L - j)
  have e : pfst (fun k => !tA (t k)) j (L - j) = rne t L j := rfl
  rw [e] at a b c d
  have h3 : rne t L j < L → tA (t (rne t L j)) = false := fun h => by
    have := d (by omega)
    simpa using this
  refine ⟨b, by omega, h3, fun k h1 h2 => by have := a k h1 h2; simpa using this, fun h1 h2 => ?_⟩
  rcases Nat.lt_or_ge j (rne t L j) with q | q
  · exact q
  · have e2 : rne t L j = j := by omega
    have := h3 (by omega)
    rw [e2, h2] at this
    exact absurd this (by decide)
theorem skp_sp {t : Nat → Nat} {L i : Nat} (hi : i ≤ L) : i ≤ skp t L i ∧ skp t L i ≤ L ∧ (skp t L i < L → tB (t (skp t L i)) = false) := by
  obtain ⟨a, b, c, d⟩ := pfst_pre (f := fun k => !tB (t k)) (i := i) (c := L - i)
  have e : pfst (fun k => !tB (t k)) i (L - i) = skp t L i := rfl
  rw [e] at a b c d
  exact ⟨b, by omega, fun h => by have := d (by omega); simpa using this⟩
theorem dC_0 {t : Nat → Nat} {L mo j s : Nat} {X : MM} (hk : kdJ t L mo j = 0) (h5 : X.1 5 s = nI (stJ L mo j)) (h4 : X.1 4 s = 0) (h8 : X.2.2 8 s = 0) : dC t L mo j s X :=
  ⟨h5, by omega, fun _ => ⟨h4, h8⟩, fun e => absurd (hk.symm.trans e) (by omega), fun e => absurd (hk.symm.trans e) (by omega), fun e => absurd (hk.symm.trans e) (by omega), fun e => absurd (hk.symm.trans e) (by omega)⟩
theorem dC_1 {t : Nat → Nat} {L mo j s : Nat} {X : MM} (hk : kdJ t L mo j = 1) (h5 : X.1 5 s = nI (stJ L mo j)) (h4 : X.1 4 s = 1) (h8 : X.2.2 8 s = 0) : dC t L mo j s X :=
  ⟨h5, by omega, fun e => absurd (hk.symm.trans e) (by omega), fun _ => ⟨h4, h8⟩, fun e => absurd (hk.symm.trans e) (by omega), fun e => absurd (hk.symm.trans e) (by omega), fun e => absurd (hk.symm.trans e) (by omega)⟩
theorem dC_2 {t : Nat → Nat} {L mo j s : Nat} {X : MM} (hk : kdJ t L mo j = 2) (h5 : X.1 5 s = nI (stJ L mo j)) (h7 : X.2.1 7 s = fN t j (rne t L j - j) 0) (h8 : X.2.2 8 s = cod (fN t j (rne t L j - j) 0)) (h4 : X.1 4 s = if cod (fN t j (rne t L j - j) 0) = 0 then 2 else 3) : dC t L mo j s X :=
  ⟨h5, by rw [h8]; exact cod_lt _, fun e => absurd (hk.symm.trans e) (by omega), fun e => absurd (hk.symm.trans e) (by omega), fun _ => ⟨h7, h8, h4⟩, fun e => absurd (hk.symm.trans e) (by omega), fun e => absurd (hk.symm.trans e) (by omega)⟩
theorem dC_4 {t : Nat → Nat} {L mo j s : Nat} {X : MM} (hk : kdJ t L mo j = 4) (h5 : X.1 5 s = nI (stJ L mo j)) (h4 : X.1 4 s = 4) (h6 : X.1 6 s = fV t j (rne t L j - j) 0) (h8 : X.2.2 8 s = 0) : dC t L mo j s X :=
  ⟨h5, by omega, fun e => absurd (hk.symm.trans e) (by omega), fun e => absurd (hk.symm.trans e) (by omega), fun e => absurd (hk.symm.trans e) (by omega), fun _ => ⟨h4, h6, h8⟩, fun e => absurd (hk.symm.trans e) (by omega)⟩
theorem dC_5 {t : Nat → Nat} {L mo j s : Nat} {X : MM} (hk : kdJ t L mo j = 5) (h5 : X.1 5 s = nI (stJ L mo j)) (h4 : X.1 4 s = 5) (h6 : X.1 6 s = nI (t j)) (h8 : X.2.2 8 s = 0) : dC t L mo j s X :=
  ⟨h5, by omega, fun e => absurd (hk.symm.trans e) (by omega), fun e => absurd (hk.symm.trans e) (by omega), fun e => absurd (hk.symm.trans e) (by omega), fun e => absurd (hk.symm.trans e) (by omega), fun _ => ⟨h4, h6, h8⟩⟩
theorem x_scan {X : MM} {t : Nat → Nat} {L mo s i : Nat} (h : txX X t L) (h6 : X.1 3 6 = nI s) (hs : s < 941) (h8 : X.1 3 8 = nI mo) (hm : mo ≤ 1000) (hi : i ≤ L) : ∃ X', fX7_scan (nI i) X = some (nI (enJ t L mo (skp t L i)), X') ∧ dC t L mo (skp t L i) s X' ∧ scF s X X' := by
  have hL := h.2.1
  rw [fX7_scan, x_skip h (L - i) i mx_fu (by omega) (by unfold mx_fu; omega)]
  have e0 : pfst (fun j => !tB (t j)) i (L - i) = skp t L i := rfl
  rw [e0]
  have hj := (skp_sp (t := t) hi).2.1
  generalize skp t L i = j at hj ⊢
  clear e0 hi
  have hin : mx_in (nI s) 941 = true := pb_in hs (by omega)
  have hcl : (nI s).toNatClampNeg = s := nI_clamp (by omega)
  rw [x_s33 h h6 hs h8 hm hj]
  by_cases hb : mo < L ∧ mo ≤ j
  · have hk : kdJ t L mo j = 0 := if_pos hb
    have hst : stJ L mo j = mo := if_pos hb
    have hen : enJ t L mo j = j := if_pos hb
    rw [if_pos hb]
    refine ⟨_, by rw [hen], dC_0 hk ?_ ?_ ?_, ((scF.rf.si (by omega)).sr.si (by omega)).si (by omega)⟩
    · rw [si_nk (by omega), si_eq, hst]
    · rw [si_eq]
    · exact sr_eq
  · have hst : stJ L mo j = j := if_neg hb
    rw [if_neg hb]
    have hX1 : ∃ X1, X1 = mx_sr (mx_si X 5 s (nI j)) 8 s 0 := ⟨_, rfl⟩
    obtain ⟨X1, eX1⟩ := hX1
    rw [← eX1]
    have hF : scF s X X1 := by rw [eX1]; exact (scF.rf.si (by omega)).sr
    have g5 : X1.1 5 s = nI (stJ L mo j) := by rw [eX1, hst, sr_i, si_eq]
    have g8 : X1.2.2 8 s = 0 := by rw [eX1]; exact sr_eq
    have g6 : X1.1 3 6 = nI s := by rw [hF.1 3 6 (by omega)]; exact h6
    have gT : txX X1 t L := ⟨by rw [hF.1 1 1 (by omega)]; exact h.1, h.2.1, fun i hi => by rw [hF.1 2 i (by omega)]; exact h.2.2 i hi⟩
    clear eX1
    rw [fX7_scan_103, gT.1]
    by_cases hjL : j < L
    · have hb8 := (h.2.2 j hjL).2
      rw [if_pos (nI_lt hjL (by omega)), x_at2 gT hjL]
      simp only [pb_bs]
      rw [x_letter hb8, x_digit hb8]
      simp only [pb_bs]
      have n36 : (3 : Nat) ≠ 6 := by omega
      have run : tA (t j) = true → ∃ X', fX7_scan_155 (nI i) (nI j) X1 = some (nI (enJ t L mo j), X') ∧ dC t L mo j s X' ∧ scF s X X' := by
        intro ha
        obtain ⟨r1, r2, r3, r4, r5⟩ := rne_sp (t := t) hj
        have hr5 := r5 hjL ha
        have hc := cSD t (rne t L j - j) j
        have hen : enJ t L mo j = rne t L j := by unfold enJ; rw [if_neg hb, if_neg (by omega), if_pos ha]
        have e1 : fX7_scanRun_13 (nI j) mx_fu 0 0 0 0 (nI j) X1 = fX7_scanRun_97 (nI j) (nI (0 + cS t j (rne t L j - j))) (nI (0 + cD t j (rne t L j - j))) (fN t j (rne t L j - j) 0) (fV t j (rne t L j - j) 0) X1 := x_run13 (i1 := nI j) gT r2 (fun _ _ => trivial) r3 (rne t L j - j) j mx_fu 0 0 0 0 (by omega) r4 (by unfold mx_fu; omega)
        rw [fX7_scan_155, fX7_scanRun, e1, Nat.zero_add, Nat.zero_add, x_run97 g6 hs (by omega) (by omega), nI_add, nI_add]
        have e2 : j + cS t j (rne t L j - j) + cD t j (rne t L j - j) = rne t L j := by omega
        rw [e2, hen]
        simp only [pb_bs]
        by_cases w : cD t j (rne t L j - j) = 0 ∧ cS t j (rne t L j - j) ≤ 7
        · have hk : kdJ t L mo j = 2 := by unfold kdJ; rw [if_neg hb, if_neg (by omega), if_pos ha, if_pos w]
          rw [if_pos w]
          refine ⟨_, rfl, dC_2 hk ?_ sl_eq sr_eq si_eq, ((hF.sl.si (by omega)).sr).si (by omega)⟩
          rw [si_nk (by omega), sr_i, si_nk (by omega), sl_i]; exact g5
        · rw [if_neg w]
          by_cases w2 : cS t j (rne t L j - j) = 0 ∧ cD t j (rne t L j - j) ≤ 3
          · have hk : kdJ t L mo j = 4 := by unfold kdJ; rw [if_neg hb, if_neg (by omega), if_pos ha, if_neg w, if_pos w2]
            refine ⟨_, rfl, dC_4 hk ?_ ?_ ?_ ?_, (hF.sl.si (by omega)).si (by omega)⟩
            · rw [si_nk (by omega), si_nk (by omega), sl_i]; exact g5
            · rw [si_eq, if_pos w2]
            · rw [si_nk (by omega), si_eq]
            · exact g8
          · have hk : kdJ t L mo j = 0 := by unfold kdJ; rw [if_neg hb, if_neg (by omega), if_pos ha, if_neg w, if_neg w2]
            refine ⟨_, rfl, dC_0 hk ?_ ?_ ?_, (hF.sl.si (by omega)).si (by omega)⟩
            · rw [si_nk (by omega), si_nk (by omega), sl_i]; exact g5
            · rw [si_eq, if_neg w2]
            · exact g8
      cases hS : tS (t j)
      · rw [if_pos b_f]
        cases hD : tD (t j)
        · have ha : ¬ tA (t j) = true := by unfold tA; rw [hS, hD]; decide
          have hk : kdJ t L mo j = 5 := by unfold kdJ; rw [if_neg hb, if_neg (by omega), if_neg ha]
          have hen : enJ t L mo j = j + 1 := by unfold enJ; rw [if_neg hb, if_neg (by omega), if_neg ha]
          rw [if_pos b_f]
          simp only [g6, hin, hcl, ↓reduceIte, si_nk n36]
          refine ⟨_, by rw [hen, nI_1], dC_5 hk ?_ ?_ ?_ ?_, (hF.si (by omega)).si (by omega)⟩
          · rw [si_nk (by omega), si_nk (by omega)]; exact g5
          · rw [si_eq]
          · rw [si_nk (by omega), si_eq]
          · exact g8
        · rw [if_neg b_t]
          exact run (by unfold tA; rw [hS, hD]; rfl)
      · rw [if_neg b_t]
        exact run (by unfold tA; rw [hS]; rfl)
    · rw [if_neg (nI_nlt (by omega) (by omega)), g6, hin, hcl]
      simp only [↓reduceIte]
      have hk : kdJ t L mo j = 1 := by unfold kdJ; rw [if_neg hb, if_pos (by omega)]
      have hen : enJ t L mo j = j := by unfold enJ; rw [if_neg hb, if_pos (by omega)]
      refine ⟨_, by rw [hen], dC_1 hk ?_ ?_ ?_, hF.si (by omega)⟩
      · rw [si_nk (by omega)]; exact g5
      · rw [si_eq]
      · exact g8
/-! the class: all tokens -/
def iP (t : Nat → Nat) (L mo : Nat) : Nat → Nat
  | 0 => 0
  | s + 1 => enJ t L mo (skp t L (iP t L mo s))
def tP (t : Nat → Nat) (L mo s : Nat) : Nat := skp t L (iP t L mo s)
theorem enJ_sp {t : Nat → Nat} {L mo j : Nat} (hj : j ≤ L) : j ≤ enJ t L mo j ∧ enJ t L mo j ≤ L ∧ (kdJ t L mo j ≠ 0 → kdJ t L mo j ≠ 1 → j < enJ t L mo j) := by
  obtain ⟨r1, r2, r3, r4, r5⟩ := rne_sp (t := t) hj
  unfold enJ kdJ
  by_cases hb : mo < L ∧ mo ≤ j
  · rw [if_pos hb, if_pos hb]
    exact ⟨Nat.le_refl _, hj, fun h => absurd rfl h⟩
  · rw [if_neg hb, if_neg hb]
    by_cases hl : L ≤ j
    · rw [if_pos hl, if_pos hl]
      exact ⟨Nat.le_refl _, hj, fun _ h => absurd rfl h⟩
    · rw [if_neg hl, if_neg hl]
      by_cases ha : tA (t j) = true
      · rw [if_pos ha]
        exact ⟨r1, r2, fun _ _ => r5 (by omega) ha⟩
      · rw [if_neg ha]
        omega
theorem kdJ_cs (t : Nat → Nat) (L mo j : Nat) : kdJ t L mo j = 0 ∨ kdJ t L mo j = 1 ∨ kdJ t L mo j = 2 ∨ kdJ t L mo j = 4 ∨ kdJ t L mo j = 5 := by
  unfold kdJ
  repeat' split
  all_goals omega
theorem dC_kd {t : Nat → Nat} {L mo j s : Nat} {X : MM} (h : dC t L mo j s X) : (X.1 4 s = 0 ↔ kdJ t L mo j = 0) ∧ (X.1 4 s = 1 ↔ kdJ t L mo j = 1) := by
  obtain ⟨-, -, a0, a1, a2, a4, a5⟩ := h
  rcases kdJ_cs t L mo j with k | k | k | k | k
  · rw [(a0 k).1, k]; decide
  · rw [(a1 k).1, k]; decide
  · rw [(a2 k).2.2, k]; constructor <;> split <;> decide
  · rw [(a4 k).1, k]; decide
  · rw [(a5 k).1, k]; decide
theorem dC_fr {t : Nat → Nat} {L mo j s : Nat} {X X' : MM} (h4 : X'.1 4 s = X.1 4 s) (h5 : X'.1 5 s = X.1 5 s) (h6 : X'.1 6 s = X.1 6 s) (h7 : X'.2.1 7 s = X.2.1 7 s) (h8 : X'.2.2 8 s = X.2.2 8 s) (h : dC t L mo j s X) : dC t L mo j s X' := by
  unfold dC
  rw [h4, h5, h6, h7, h8]
  exact h
def opF (X X' : MM) : Prop := (∀ a, a < 3 ∨ 6 < a → X'.1 a = X.1 a) ∧ (∀ a, a ≠ 7 → X'.2.1 a = X.2.1 a) ∧ ∀ a, a ≠ 8 → X'.2.2 a = X.2.2 a
theorem opF.rf {X : MM} : opF X X := ⟨fun _ _ => rfl, fun _ _ => rfl, fun _ _ => rfl⟩
theorem opF.tr {X X1 X2 : MM} (a : opF X X1) (b : opF X1 X2) : opF X X2 := ⟨fun k h => (b.1 k h).trans (a.1 k h), fun k h => (b.2.1 k h).trans (a.2.1 k h), fun k h => (b.2.2 k h).trans (a.2.2 k h)⟩
theorem opF.sc {s : Nat} {X X' : MM} (h : scF s X X') : opF X X' := ⟨fun a ha => by funext b; exact h.1 a b (by omega), fun a ha => by funext b; exact h.2.1 a b (by omega), fun a ha => by funext b; exact h.2.2 a b (by omega)⟩
theorem opF.si {X : MM} {k j : Nat} {v : Int32} (hk : 3 ≤ k ∧ k ≤ 6) : opF X (mx_si X k j v) := ⟨fun a ha => si_row (by omega), fun _ _ => rfl, fun _ _ => rfl⟩
theorem x_opl {t : Nat → Nat} {L mo : Nat} {i1 : Int32} (hm : mo ≤ 1000) : ∀ c s X f, L - iP t L mo s < c → c + 1 < f → s ≤ iP t L mo s → iP t L mo s ≤ L → txX X t L → X.1 3 6 = nI s → X.1 3 8 = nI mo → (∀ r, r < s → dC t L mo (tP t L mo r) r X ∧ kdJ t L mo (tP t L mo r) ≠ 0 ∧ kdJ t L mo (tP t L mo r) ≠ 1) → ∃ n X', fX7_open_29 i1 f (nI (iP t L mo s)) true X = some X' ∧ 0 < n ∧ n ≤ 941 ∧ X'.1 3 6 = nI n ∧ (∀ b, b ≠ 6 → X'.1 3 b = X.1 3 b) ∧ opF X X' ∧ (∀ r, r < n → dC t L mo (tP t L mo r) r X') ∧ ∀ r, r < n → kdJ t L mo (tP t L mo r) ≠ 0 → kdJ t L mo (tP t L mo r) ≠ 1 → r + 1 < n := by
  intro c
  induction c with
  | zero => intro s X f h; omega
  | succ c ih =>
    intro s X f hc hf hs hi hT h6 h8 hd
    obtain ⟨f, rfl⟩ : ∃ z, f = z + 1 := ⟨f - 1, by omega⟩
    have hL := hT.2.1
    have hin : mx_in (nI s) 941 = true := pb_in (by omega) (by omega)
    have hcl : (nI s).toNatClampNeg = s := nI_clamp (by omega)
    obtain ⟨X1, e1, d1, F1⟩ := x_scan (i := iP t L mo s) hT h6 (by omega) h8 hm hi
    have g6 : X1.1 3 6 = nI s := by rw [F1.1 3 6 (by omega)]; exact h6
    have hj := skp_sp (t := t) hi
    have hen := enJ_sp (t := t) (mo := mo) hj.2.1
    have hk := dC_kd d1
    have step : ∀ r, r < s + 1 → dC t L mo (tP t L mo r) r (mx_si X1 3 6 (nI (s + 1))) := by
      intro r hr
      refine dC_fr (X := X1) (si_nk (by omega)) (si_nk (by omega)) (si_nk (by omega)) rfl rfl ?_
      rcases Nat.lt_or_ge r s with q | q
      · exact dC_fr (F1.1 _ _ (by omega)) (F1.1 _ _ (by omega)) (F1.1 _ _ (by omega)) (F1.2.1 _ _ (by omega)) (F1.2.2 _ _ (by omega)) (hd r q).1
      · have : r = s := by omega
        subst this
        exact d1
    have fr : opF X (mx_si X1 3 6 (nI (s + 1))) := (opF.sc F1).tr (opF.si (by omega))
    have fr3 : ∀ b, b ≠ 6 → (mx_si X1 3 6 (nI (s + 1))).1 3 b = X.1 3 b := fun b hb => by rw [si_nj hb]; exact F1.1 3 b (by omega)
    have stop : kdJ t L mo (tP t L mo s) = 0 ∨ kdJ t L mo (tP t L mo s) = 1 → ∃ n X', some (mx_si X1 3 6 (nI (s + 1))) = some X' ∧ 0 < n ∧ n ≤ 941 ∧ X'.1 3 6 = nI n ∧ (∀ b, b ≠ 6 → X'.1 3 b = X.1 3 b) ∧ opF X X' ∧ (∀ r, r < n → dC t L mo (tP t L mo r) r X') ∧ ∀ r, r < n → kdJ t L mo (tP t L mo r) ≠ 0 → kdJ t L mo (tP t L mo r) ≠ 1 → r + 1 < n := by
      intro hz
      refine ⟨s + 1, _, rfl, by omega, by omega, si_eq, fr3, fr, step, fun r hr h0 h1 => ?_⟩
      rcases Nat.lt_or_ge r s with q | q
      · omega
      · have : r = s := by omega
        subst this
        rcases hz with z | z
        · exact absurd z h0
        · exact absurd z h1
    obtain ⟨g, rfl⟩ : ∃ z, f = z + 1 := ⟨f - 1, by omega⟩
    rw [fX7_open_29, if_neg b_t, h6, if_neg (show ¬ ((941 : Int32) ≤ nI s) from nI_ge (b := 941) (by omega) (by omega)), e1]
    simp only [pb_bs]
    rw [g6, hin, hcl]
    simp only [↓reduceIte]
    by_cases k0 : kdJ t L mo (skp t L (iP t L mo s)) = 0
    · rw [if_pos (hk.1.mpr k0), fX7_open_78, fX7_open_79, g6, nI_1, fX7_open_29, if_pos b_f]
      exact stop (Or.inl k0)
    · rw [if_neg (fun q => k0 (hk.1.mp q))]
      by_cases k1 : kdJ t L mo (skp t L (iP t L mo s)) = 1
      · rw [if_pos (hk.2.mpr k1), fX7_open_78, fX7_open_79, g6, nI_1, fX7_open_29, if_pos b_f]
        exact stop (Or.inr k1)
      · rw [if_neg (fun q => k1 (hk.2.mp q)), fX7_open_79, g6, nI_1]
        have h3 := hen.2.2 k0 k1
        obtain ⟨n, X', a1, a2, a3, a4, a5, a6, a7, a8⟩ := ih (s + 1) (mx_si X1 3 6 (nI (s + 1))) (g + 1) (by rw [iP]; omega) (by omega) (by rw [iP]; omega) (by rw [iP]; omega) ⟨by rw [fr.1 1 (by omega)]; exact hT.1, hT.2.1, fun i hi => by rw [fr.1 2 (by omega)]; exact hT.2.2 i hi⟩ si_eq (by rw [fr3 8 (by omega)]; exact h8) (fun r hr => ⟨step r hr, by
          rcases Nat.lt_or_ge r s with q | q
          · exact (hd r q).2
          · have : r = s := by omega
            subst this
            exact ⟨k0, k1⟩⟩)
        rw [iP] at a1
        exact ⟨n, X', a1, a2, a3, a4, fun b hb => (a5 b hb).trans (fr3 b hb), fr.tr a6, a7, a8⟩
theorem x_open {X : MM} {t : Nat → Nat} {L mo : Nat} (h : txX X t L) (hm : mo ≤ 1000) : ∃ n X', fX7_open (nI mo) X = some X' ∧ 0 < n ∧ n ≤ 941 ∧ X'.1 3 6 = nI n ∧ X'.1 3 7 = nI 0 ∧ X'.1 3 10 = 0 ∧ opF X X' ∧ (∀ r, r < n → dC t L mo (tP t L mo r) r X') ∧ ∀ r, r < n → kdJ t L mo (tP t L mo r) ≠ 0 → kdJ t L mo (tP t L mo r) ≠ 1 → r + 1 < n := by
  have hL := h.2.1
  have hF : opF X (mx_si (mx_si (mx_si (mx_si (mx_si X 3 8 (nI mo)) 3 7 (0 : Int32)) 3 6 (0 : Int32)) 3 10 (0 : Int32)) 3 11 (0 : Int32)) := ((((opF.si (by omega)).tr (opF.si (by omega))).tr (opF.si (by omega))).tr (opF.si (by omega))).tr (opF.si (by omega))
  obtain ⟨n, X', a1, a2, a3, a4, a5, a6, a7, a8⟩ := x_opl (t := t) (L := L) (mo := mo) (i1 := nI mo) hm 950 0 (mx_si (mx_si (mx_si (mx_si (mx_si X 3 8 (nI mo)) 3 7 (0 : Int32)) 3 6 (0 : Int32)) 3 10 (0 : Int32)) 3 11 (0 : Int32)) mx_fu (by rw [iP]; omega) (by unfold mx_fu; omega) (by omega) (by rw [iP]; omega) ⟨by rw [hF.1 1 (by omega)]; exact h.1, h.2.1, fun i hi => by rw [hF.1 2 (by omega)]; exact h.2.2 i hi⟩ (by rw [si_nj (by omega), si_nj (by omega), si_eq]; rfl) (by rw [si_nj (by omega), si_nj (by omega), si_nj (by omega), si_nj (by omega), si_eq]) (fun r hr => absurd hr (by omega))
  refine ⟨n, X', a1, a2, a3, a4, ?_, ?_, hF.tr a6, a7, a8⟩
  · rw [a5 7 (by omega), si_nj (by omega), si_nj (by omega), si_nj (by omega), si_eq]; rfl
  · rw [a5 10 (by omega), si_nj (by omega), si_eq]
