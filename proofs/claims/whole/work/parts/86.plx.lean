/-! the two readers side by side: a text, its length, its most bytes, how many tokens -/
abbrev TX : Type := (Nat → Nat) × Nat × Nat × Nat
def LX (T : TX) (s : Nat) (X Y : MM) : Prop :=
  yT Y T.1 T.2.1 T.2.2.1 ∧ X.1 3 6 = nI T.2.2.2 ∧ T.2.2.2 ≤ 941 ∧ (∀ r, r < T.2.2.2 → dC T.1 T.2.1 T.2.2.1 (tP T.1 T.2.1 T.2.2.1 r) r X) ∧ (∀ r, r < T.2.2.2 → kdJ T.1 T.2.1 T.2.2.1 (tP T.1 T.2.1 T.2.2.1 r) ≠ 0 → kdJ T.1 T.2.1 T.2.2.1 (tP T.1 T.2.1 T.2.2.1 r) ≠ 1 → r + 1 < T.2.2.2) ∧ (∀ k, k < 23 → Y.2.1 6 k = resW k) ∧ s < T.2.2.2 ∧ X.1 3 7 = nI s ∧ Y.1 0 4 = nI (iP T.1 T.2.1 T.2.2.1 (s + 1)) ∧ (X.1 3 10 = 0 ∧ Y.1 0 15 = 0) ∧ TK s X Y
theorem TK.fr {s : Nat} {X Y X' Y' : MM} (h : TK s X Y) (x4 : X'.1 4 s = X.1 4 s) (x5 : X'.1 5 s = X.1 5 s) (x6 : X'.1 6 s = X.1 6 s) (x7 : X'.2.1 7 s = X.2.1 7 s) (x8 : X'.2.2 8 s = X.2.2 8 s) (y11 : Y'.1 0 11 = Y.1 0 11) (y12 : Y'.1 0 12 = Y.1 0 12) (y14 : Y'.1 0 14 = Y.1 0 14) (y17 : Y'.2.1 0 17 = Y.2.1 0 17) : TK s X' Y' := by
  unfold TK
  rw [x4, x5, x6, x7, x8, y11, y12, y14, y17]
  exact h
theorem LX.fr {T : TX} {s : Nat} {X Y X' Y' : MM} (h : LX T s X Y) (x3 : ∀ j, j = 6 ∨ j = 7 ∨ j = 10 → X'.1 3 j = X.1 3 j) (x4 : ∀ a, 4 ≤ a → a ≤ 6 → X'.1 a = X.1 a) (x7 : X'.2.1 7 = X.2.1 7) (x8 : X'.2.2 8 = X.2.2 8) (y0 : ∀ j, j = 3 ∨ j = 4 ∨ j = 5 ∨ j = 11 ∨ j = 12 ∨ j = 14 ∨ j = 15 → Y'.1 0 j = Y.1 0 j) (y1 : Y'.1 1 = Y.1 1) (y17 : Y'.2.1 0 17 = Y.2.1 0 17) (y6 : Y'.2.1 6 = Y.2.1 6) : LX T s X' Y' := by
  obtain ⟨a1, a2, a3, a4, a5, a6, a7, a8, a9, a11, a10⟩ := h
  refine ⟨⟨by rw [y0 3 (by omega)]; exact a1.1, by rw [y0 5 (by omega)]; exact a1.2.1, a1.2.2.1, a1.2.2.2.1, fun i hi => by rw [y1]; exact a1.2.2.2.2 i hi⟩, by rw [x3 6 (by omega)]; exact a2, a3, fun r hr => dC_fr (by rw [x4 4 (by omega) (by omega)]) (by rw [x4 5 (by omega) (by omega)]) (by rw [x4 6 (by omega) (by omega)]) (by rw [x7]) (by rw [x8]) (a4 r hr), a5, fun k hk => by rw [y6]; exact a6 k hk, a7, by rw [x3 7 (by omega)]; exact a8, by rw [y0 4 (by omega)]; exact a9, ⟨by rw [x3 10 (by omega)]; exact a11.1, by rw [y0 15 (by omega)]; exact a11.2⟩, a10.fr (by rw [x4 4 (by omega) (by omega)]) (by rw [x4 5 (by omega) (by omega)]) (by rw [x4 6 (by omega) (by omega)]) (by rw [x7]) (by rw [x8]) (y0 11 (by omega)) (y0 12 (by omega)) (y0 14 (by omega)) y17⟩
theorem LX.xs {T : TX} {s k j : Nat} {X Y : MM} {v : Int32} (h : LX T s X Y) (hk : k < 3 ∨ 6 < k ∨ (k = 3 ∧ (j = 8 ∨ j = 9))) : LX T s (mx_si X k j v) Y :=
  h.fr (fun i hi => by
    show (if _ then _ else _) = _
    rw [if_neg (by omega)]) (fun a h1 h2 => si_row (by omega)) rfl rfl (fun _ _ => rfl) rfl rfl rfl
theorem LX.xl {T : TX} {s k j : Nat} {X Y : MM} {v : Int64} (h : LX T s X Y) (hk : k ≠ 7) : LX T s (mx_sl X k j v) Y :=
  h.fr (fun _ _ => rfl) (fun _ _ _ => rfl) (mx_sl_ne (fun q => hk q.symm)) rfl (fun _ _ => rfl) rfl rfl rfl
theorem LX.xr {T : TX} {s k j v : Nat} {X Y : MM} (h : LX T s X Y) (hk : k ≠ 8) : LX T s (mx_sr X k j v) Y :=
  h.fr (fun _ _ => rfl) (fun _ _ _ => rfl) rfl (mx_sr_ne (fun q => hk q.symm)) (fun _ _ => rfl) rfl rfl rfl
theorem LX.ys {T : TX} {s k j : Nat} {X Y : MM} {v : Int32} (h : LX T s X Y) (hk : 1 < k ∨ (k = 0 ∧ 16 ≤ j)) : LX T s X (mx_si Y k j v) :=
  h.fr (fun _ _ => rfl) (fun _ _ _ => rfl) rfl rfl (fun i hi => by
    show (if _ then _ else _) = _
    rw [if_neg (by omega)]) (si_row (by omega)) rfl rfl
theorem LX.yl {T : TX} {s j : Nat} {X Y : MM} {v : Int64} (h : LX T s X Y) : LX T s X (mx_sl Y 5 j v) :=
  h.fr (fun _ _ => rfl) (fun _ _ _ => rfl) rfl rfl (fun _ _ => rfl) rfl (by rw [mx_sl_ne (by omega)]) (mx_sl_ne (by omega))
theorem iP_le {t : Nat → Nat} {L mo : Nat} : ∀ s, iP t L mo s ≤ L := by
  intro s
  induction s with
  | zero => rw [iP]; omega
  | succ s ih => rw [iP]; exact (enJ_sp (skp_sp ih).2.1).2.1
theorem LX.in_ {T : TX} {s : Nat} {X Y : MM} (h : LX T s X Y) : mx_in (nI s) 941 = true := by
  have h1 := h.2.2.1
  have h2 := h.2.2.2.2.2.2.1
  exact pb_in (by omega) (by omega)
theorem LX.cl {T : TX} {s : Nat} {X Y : MM} (h : LX T s X Y) : (nI s).toNatClampNeg = s := by
  have h1 := h.2.2.1
  have h2 := h.2.2.2.2.2.2.1
  exact nI_clamp (by omega)
theorem LX.x7 {T : TX} {s : Nat} {X Y : MM} (h : LX T s X Y) : X.1 3 7 = nI s := h.2.2.2.2.2.2.2.1
theorem LX.tk {T : TX} {s : Nat} {X Y : MM} (h : LX T s X Y) : TK s X Y := h.2.2.2.2.2.2.2.2.2.2
theorem LX.ft {T : TX} {s : Nat} {X Y : MM} (h : LX T s X Y) : X.1 3 10 = 0 ∧ Y.1 0 15 = 0 := h.2.2.2.2.2.2.2.2.2.1
theorem LX.rs {T : TX} {s : Nat} {X Y : MM} (h : LX T s X Y) : ∀ k, k < 23 → Y.2.1 6 k = resW k := h.2.2.2.2.2.1
theorem LX.adv {T : TX} {s : Nat} {X Y : MM} (h : LX T s X Y) (h0 : X.1 4 s ≠ 0) (h1 : X.1 4 s ≠ 1) : fX7_advance X = some (mx_si X 3 7 (nI (s + 1))) ∧ ∃ Y', fX13_next Y = some Y' ∧ nN Y Y' ∧ LX T (s + 1) (mx_si X 3 7 (nI (s + 1))) Y' := by
  obtain ⟨a1, a2, a3, a4, a5, a6, a7, a8, a9, a11, a10⟩ := h
  have hk := dC_kd (a4 s a7)
  have hs := a5 s a7 (fun q => h0 (hk.1.mpr q)) (fun q => h1 (hk.2.mpr q))
  refine ⟨by rw [fX7_advance, a2, a8, nI_1, if_neg (nI_ge hs (by omega))], ?_⟩
  obtain ⟨Y', e1, e2, e3, e4⟩ := m_next a1 (iP_le (s + 1)) a9
  have hC : ∀ r, r < T.2.2.2 → dC T.1 T.2.1 T.2.2.1 (tP T.1 T.2.1 T.2.2.1 r) r (mx_si X 3 7 (nI (s + 1))) := fun r hr => dC_fr (si_nk (by omega)) (si_nk (by omega)) (si_nk (by omega)) rfl rfl (a4 r hr)
  refine ⟨Y', e1, e2, a1.fr e2, by rw [si_nj (by omega)]; exact a2, a3, hC, a5, fun k hk => by rw [e2.2 6 k (by omega)]; exact a6 k hk, hs, si_eq, e3, ⟨by rw [si_nj (by omega)]; exact a11.1, by rw [e2.1 0 15 (by omega)]; exact a11.2⟩, TK_of (hC (s + 1) hs) e4 (skp_sp (iP_le (s + 1))).2.1 (fun i hi => (a1.2.2.2.2 i hi).2)⟩
/-- what the small readers change -/
def nX (X X' : MM) : Prop := (∀ a b, ¬ (a = 3 ∧ (b = 7 ∨ (9 ≤ b ∧ b ≤ 11))) → X'.1 a b = X.1 a b) ∧ X'.2 = X.2
def nY (Y Y' : MM) : Prop := (∀ a b, ¬ (a = 0 ∧ (b = 4 ∨ (11 ≤ b ∧ b ≤ 16) ∨ b = 18)) → Y'.1 a b = Y.1 a b) ∧ ∀ a b, ¬ (a = 0 ∧ b = 17) → Y'.2.1 a b = Y.2.1 a b
theorem nX.rf {X : MM} : nX X X := ⟨fun _ _ _ => rfl, rfl⟩
theorem nX.tr {X X1 X2 : MM} (a : nX X X1) (b : nX X1 X2) : nX X X2 := ⟨fun k j h => (b.1 k j h).trans (a.1 k j h), b.2.trans a.2⟩
theorem nX.si {X X' : MM} {j : Nat} {v : Int32} (h : nX X X') (hj : j = 7 ∨ (9 ≤ j ∧ j ≤ 11)) : nX X (mx_si X' 3 j v) := ⟨fun a b hn => by
  rw [← h.1 a b hn]
  show (if _ then _ else _) = _
  rw [if_neg (by omega)], h.2⟩
theorem nY.rf {Y : MM} : nY Y Y := ⟨fun _ _ _ => rfl, fun _ _ _ => rfl⟩
theorem nY.tr {Y Y1 Y2 : MM} (a : nY Y Y1) (b : nY Y1 Y2) : nY Y Y2 := ⟨fun k j h => (b.1 k j h).trans (a.1 k j h), fun k j h => (b.2 k j h).trans (a.2 k j h)⟩
theorem nY.si {Y Y' : MM} {j : Nat} {v : Int32} (h : nY Y Y') (hj : j = 4 ∨ (11 ≤ j ∧ j ≤ 16) ∨ j = 18) : nY Y (mx_si Y' 0 j v) := ⟨fun a b hn => by
  rw [← h.1 a b hn]
  show (if _ then _ else _) = _
  rw [if_neg (by omega)], h.2⟩
theorem nN.y {Y Y' : MM} (h : nN Y Y') : nY Y Y' := ⟨fun a b hn => h.1 a b (by omega), h.2⟩
theorem nX.row {X X' : MM} (h : nX X X') {a : Nat} (ha : a ≠ 3) : X'.1 a = X.1 a := by funext b; exact h.1 a b (by omega)
theorem nY.row {Y Y' : MM} (h : nY Y Y') {a : Nat} (ha : a ≠ 0) : Y'.1 a = Y.1 a := by funext b; exact h.1 a b (by omega)
theorem nY.lrow {Y Y' : MM} (h : nY Y Y') {a : Nat} (ha : a ≠ 0) : Y'.2.1 a = Y.2.1 a := by funext b; exact h.2 a b (by omega)
/-- the two faults are one -/
def FL (X Y : MM) : Prop := X.1 3 10 = Y.1 0 15 ∧ X.1 3 11 = Y.1 0 16
def NO (X Y : MM) (a b : Option (Bool × MM)) : Prop := ∃ X' Y', a = some (false, X') ∧ b = some (false, Y') ∧ nX X X' ∧ nY Y Y' ∧ FL X' Y'
/-- a small reader of each -/
def PT (T : TX) (X Y : MM) (a b : Option (Bool × MM)) (Q : MM → MM → Prop) : Prop :=
  (∃ s X' Y', a = some (true, X') ∧ b = some (true, Y') ∧ nX X X' ∧ nY Y Y' ∧ LX T s X' Y' ∧ Q X' Y') ∨ NO X Y a b
theorem p_fail {T : TX} {s : Nat} {X Y : MM} (h : LX T s X Y) (k : Int32) : NO X Y (fX7_fail k X) (fX13_bad k Y) := by
  refine ⟨mx_si (mx_si X 3 10 k) 3 11 (X.1 5 s), mx_si (mx_si Y 0 15 k) 0 16 (Y.1 0 12), ?_, ?_, (nX.rf.si (by omega)).si (by omega), (nY.rf.si (by omega)).si (by omega), ?_, ?_⟩
  · rw [fX7_fail, si_nj (by omega), h.x7, h.in_, h.cl, if_pos rfl, si_nk (by omega)]
  · rw [fX13_bad, si_nj (by omega)]
  · rw [si_nj (by omega), si_eq, si_nj (by omega), si_eq]
  · rw [si_eq, si_eq]; exact h.tk.1
theorem p_key {T : TX} {s : Nat} {X Y : MM} (h : LX T s X Y) : fX7_key X = some (X.2.2 8 s) := by
  rw [fX7_key, h.x7, h.in_, h.cl, if_pos rfl]
theorem p_name {T : TX} {s : Nat} {X Y : MM} (h : LX T s X Y) : fX7_name X = some (X.2.1 7 s) := by
  rw [fX7_name, h.x7, h.in_, h.cl, if_pos rfl]
theorem p_isAt {T : TX} {s : Nat} {X Y : MM} {k : Int32} (h : LX T s X Y) : fX7_isAt k X = some (decide (X.1 4 s = k)) := by
  rw [fX7_isAt, h.x7, h.in_, h.cl, if_pos rfl]
  by_cases e : X.1 4 s = k <;> simp [e]
theorem TK.end_ {s : Nat} {X Y : MM} (h : TK s X Y) : (X.1 4 s = 1) = (Y.1 0 11 = 0) := by
  apply propext
  rcases h.2.2 with ⟨a1, a2, a3⟩ | ⟨a1, a2, a3⟩ | ⟨a1, a2, a3, a4, a5⟩ | ⟨v, hv, a1, a2, a3, a4, a5⟩ | ⟨c, hc, a1, a2, a3, a4, a5⟩
  · rw [a1, a3]; decide
  · rw [a1, a3]; decide
  · rw [a1, a5]; split <;> decide
  · rw [a1, a4]; decide
  · rw [a1, a5]; split <;> decide
theorem TK.wd {s k : Nat} {X Y : MM} (h : TK s X Y) (hk : k < 23) : (X.2.2 8 s = k + 1) = (Y.1 0 11 = 1 ∧ Y.2.1 0 17 = resW k) := by
  apply propext
  rcases h.2.2 with ⟨a1, a2, a3⟩ | ⟨a1, a2, a3⟩ | ⟨a1, a2, a3, a4, a5⟩ | ⟨v, hv, a1, a2, a3, a4, a5⟩ | ⟨c, hc, a1, a2, a3, a4, a5⟩
  · rw [a2, a3]; exact ⟨fun q => absurd q (by omega), fun q => absurd q.1 (by decide)⟩
  · rw [a2, a3]; exact ⟨fun q => absurd q (by omega), fun q => absurd q.1 (by decide)⟩
  · rw [a4, nm_iff a2 a3 hk]; exact ⟨fun q => ⟨a1, q⟩, fun q => q.2⟩
  · rw [a2, a4]; exact ⟨fun q => absurd q (by omega), fun q => absurd q.1 (by decide)⟩
  · rw [a2, a5]; exact ⟨fun q => absurd q (by omega), fun q => absurd q.1 (by split <;> decide)⟩
theorem p_isWord {T : TX} {s : Nat} {X Y : MM} (h : LX T s X Y) (k : Nat) (hk : k < 23) : fX13_isWord (resW k) Y = some (decide (X.2.2 8 s = k + 1)) := by
  rw [fX13_isWord]
  simp only [h.tk.wd hk, propext (lcmp0 (x := Y.2.1 0 17) (y := resW k))]
  by_cases e1 : Y.1 0 11 = 1
  · by_cases e2 : Y.2.1 0 17 = resW k <;> simp [e1, e2]
  · simp [e1]
theorem TK.key {s : Nat} {X Y : MM} (h : TK s X Y) (hk : X.2.2 8 s ≠ 0) : X.1 4 s = 3 := by
  rcases h.2.2 with ⟨a1, a2, a3⟩ | ⟨a1, a2, a3⟩ | ⟨a1, a2, a3, a4, a5⟩ | ⟨v, hv, a1, a2, a3, a4, a5⟩ | ⟨c, hc, a1, a2, a3, a4, a5⟩
  · exact absurd a2 hk
  · exact absurd a2 hk
  · rw [a5, if_neg (by rw [← a4]; exact hk)]
  · exact absurd a2 hk
  · exact absurd a2 hk
theorem TK.num {s : Nat} {X Y : MM} (h : TK s X Y) : (X.1 4 s = 4 ∧ Y.1 0 11 = 2 ∧ ∃ v, v < 1000 ∧ X.1 6 s = nI v ∧ Y.1 0 14 = nI v) ∨ (X.1 4 s ≠ 4 ∧ Y.1 0 11 ≠ 2) := by
  rcases h.2.2 with ⟨a1, a2, a3⟩ | ⟨a1, a2, a3⟩ | ⟨a1, a2, a3, a4, a5⟩ | ⟨v, hv, a1, a2, a3, a4, a5⟩ | ⟨c, hc, a1, a2, a3, a4, a5⟩
  · right; rw [a1, a3]; decide
  · right; rw [a1, a3]; decide
  · right; rw [a1, a5]; split <;> decide
  · left; exact ⟨a1, a4, v, hv, a3, a5⟩
  · right; rw [a1, a5]; split <;> decide
theorem TK.sg {s c : Nat} {X Y : MM} (h : TK s X Y) (hc : sgC c = true) (hc2 : c < 256) : (X.1 4 s = 5 ∧ X.1 6 s = nI c) = (Y.1 0 11 = 3 ∧ Y.1 0 14 = nI c) := by
  apply propext
  rcases h.2.2 with ⟨a1, a2, a3⟩ | ⟨a1, a2, a3⟩ | ⟨a1, a2, a3, a4, a5⟩ | ⟨v, hv, a1, a2, a3, a4, a5⟩ | ⟨d, hd, a1, a2, a3, a4, a5⟩
  · rw [a1, a3]; exact ⟨fun q => absurd q.1 (by decide), fun q => absurd q.1 (by decide)⟩
  · rw [a1, a3]; exact ⟨fun q => absurd q.1 (by decide), fun q => absurd q.1 (by decide)⟩
  · rw [a1, a5]; exact ⟨fun q => absurd q.1 (by split <;> decide), fun q => absurd q.1 (by decide)⟩
  · rw [a1, a4]; exact ⟨fun q => absurd q.1 (by decide), fun q => absurd q.1 (by decide)⟩
  · rw [a1, a3, a4, a5, nI_eq (by omega) (by omega)]
    refine ⟨fun q => ⟨by rw [q.2, hc]; rfl, q.2⟩, fun q => ⟨rfl, q.2⟩⟩
theorem p_isSign {T : TX} {s c : Nat} {X Y : MM} (h : LX T s X Y) (hc : sgC c = true) (hc2 : c < 256) : fX7_isAtSign (nI c) X = some (decide (X.1 4 s = 5 ∧ X.1 6 s = nI c)) ∧ fX13_isSign (nI c) Y = some (decide (X.1 4 s = 5 ∧ X.1 6 s = nI c)) := by
  constructor
  · rw [fX7_isAtSign, h.x7, h.in_, h.cl]
    by_cases e1 : X.1 4 s = 5
    · by_cases e2 : X.1 6 s = nI c <;> simp [e1, e2]
    · simp [e1]
  · rw [fX13_isSign]
    simp only [h.tk.sg hc hc2]
    by_cases e1 : Y.1 0 11 = 3
    · by_cases e2 : Y.1 0 14 = nI c <;> simp [e1, e2]
    · simp [e1]
theorem NO.b {X Y : MM} {a b : Option (Bool × MM)} (h : NO X Y a b) : NO X Y (a.bind fun q => some (q.1, q.2)) (b.bind fun q => some (q.1, q.2)) := by
  obtain ⟨X', Y', e1, e2, e3⟩ := h
  rw [e1, e2]
  exact ⟨X', Y', rfl, rfl, e3⟩
theorem p_sign {T : TX} {s c : Nat} {X Y : MM} (h : LX T s X Y) (hc : sgC c = true) (hc2 : c < 256) : PT T X Y (fX7_takeSign (nI c) X) (fX13_sign (nI c) Y) (fun _ _ => True) := by
  rw [fX7_takeSign, fX13_sign, (p_isSign h hc hc2).1, (p_isSign h hc hc2).2]
  simp only [pb_bs]
  by_cases e : X.1 4 s = 5 ∧ X.1 6 s = nI c
  · obtain ⟨a1, Y', a2, a3, a4⟩ := h.adv (by rw [e.1]; decide) (by rw [e.1]; decide)
    rw [decide_eq_true e, if_neg b_t, if_neg b_t, a1, a2]
    left
    exact ⟨s + 1, _, Y', rfl, rfl, nX.rf.si (by omega), a3.y, a4, trivial⟩
  · rw [decide_eq_false e, if_pos b_f, if_pos b_f]
    right
    exact (p_fail h 1).b
theorem m_isInN {v lo hi : Nat} {M : MM} (h1 : v < 2 ^ 30) (h2 : lo < 2 ^ 30) (h3 : hi < 2 ^ 30) : fX13_isIn (nI v) (nI lo) (nI hi) M = some (decide (lo ≤ v ∧ v ≤ hi)) := by
  rw [fX13_isIn]
  simp only [pb_lt (a := v) (b := lo) (by omega) (by omega), pb_le (a := v) (b := hi) (by omega) (by omega), pb_lt (a := hi) (b := v) (by omega) (by omega)]
  by_cases e1 : v < lo
  · rw [if_pos e1]
    simp [show ¬ lo ≤ v by omega]
  · rw [if_neg e1]
    have : lo ≤ v := by omega
    by_cases e2 : v ≤ hi
    · have e3 : ¬ hi < v := by omega
      simp [this, e2, e3]
    · have e3 : hi < v := by omega
      simp [e2, e3]
theorem p_num {T : TX} {s lo hi : Nat} {X Y : MM} (h : LX T s X Y) (hlo : lo ≤ 1000) (hhi : hi ≤ 1000) : PT T X Y (fX7_takeNumber (nI lo) (nI hi) X) (fX13_takes (nI lo) (nI hi) Y) (fun X' Y' => ∃ v, lo ≤ v ∧ v ≤ hi ∧ X'.1 3 9 = nI v ∧ Y'.1 0 18 = nI v) := by
  rw [fX7_takeNumber, fX13_takes, h.x7, h.in_, h.cl]
  simp only [↓reduceIte]
  rcases h.tk.num with ⟨a1, a2, v, hv, a3, a4⟩ | ⟨a1, a2⟩
  · rw [if_pos a1, if_pos a2, a3, a4, m_isInN (by omega) (by omega) (by omega)]
    simp only [pb_bs, pb_lt (a := v) (b := lo) (by omega) (by omega), pb_le (a := v) (b := hi) (by omega) (by omega)]
    by_cases e : lo ≤ v ∧ v ≤ hi
    · obtain ⟨b1, Y', b2, b3, b4⟩ := ((h.xs (k := 3) (j := 9) (v := nI v) (by omega)).ys (k := 0) (j := 18) (v := nI v) (by omega)).adv (by rw [si_nk (by omega), a1]; decide) (by rw [si_nk (by omega), a1]; decide)
      rw [if_neg (by omega), if_pos e.2, decide_eq_true e, if_neg b_t, b1, b2]
      left
      refine ⟨s + 1, _, Y', rfl, rfl, (nX.rf.si (by omega)).si (by omega), (nY.rf.si (by omega)).tr b3.y, b4, v, e.1, e.2, ?_, ?_⟩
      · rw [si_nj (by omega), si_eq]
      · rw [b3.1 0 18 (by omega), si_eq]
    · rw [decide_eq_false e, if_pos b_f]
      right
      have e45 : (if v < lo then fX7_takeNumber_45 (nI lo) (nI hi) X else if v ≤ hi then (fX7_advance (mx_si X 3 9 (nI v))).bind fun q65 => some (true, q65) else fX7_takeNumber_45 (nI lo) (nI hi) X) = (fX7_fail (2 : Int32) X).bind fun q47 => some (q47.1, q47.2) := by
        by_cases q : v < lo
        · rw [if_pos q]; rfl
        · rw [if_neg q, if_neg (by omega)]; rfl
      rw [e45]
      exact (p_fail h 2).b
  · rw [if_neg a1, if_neg a2]
    right
    exact (p_fail h 1).b
/-! names -/
def fnd (f : Nat → Bool) (K : Nat) : Int32 := if pfst f 0 K < K then nI (pfst f 0 K) else -1
theorem fnd_cs {f : Nat → Bool} {K : Nat} : (∃ k, k < K ∧ fnd f K = nI k) ∨ fnd f K = -1 := by
  unfold fnd
  split
  · left; exact ⟨_, by assumption, rfl⟩
  · right; rfl
theorem x_pNamed {o K : Nat} {nm : Int64} {X : MM} (h : X.1 o 0 = nI K) (hK : K ≤ 7) : fX3_personNamed o nm X = some (fnd (fun p => decide (X.2.1 (o + 1) p = nm)) K) := by
  refine (loop_fst (F := fX3_personNamed_2 o nm X) (f := fun p => decide (X.2.1 (o + 1) p = nm)) (N := K) (fin := fun k => some (if k < K then nI k else -1)) (by omega) (fun n => ?_) (fun n k hk => ?_)).trans rfl
  · rw [fX3_personNamed_2, h, if_pos (nI_le (by omega) (by omega)), if_neg (by omega)]
  · rw [fX3_personNamed_2, h, if_neg (nI_ge hk (by omega)), pb_gd (by omega) (by omega), nI_clamp (by omega), nI_1, if_pos hk]
    simp only [propext (lcmp0 (x := X.2.1 (o + 1) k) (y := nm)), decide_eq_true_eq]
theorem x_rNamed {o K : Nat} {nm : Int64} {X : MM} (h : X.1 o 1 = nI K) (hK : K ≤ 7) : fX3_ringNamed o nm X = some (fnd (fun p => decide (X.2.1 (o + 5) p = nm)) K) := by
  refine (loop_fst (F := fX3_ringNamed_2 o nm X) (f := fun p => decide (X.2.1 (o + 5) p = nm)) (N := K) (fin := fun k => some (if k < K then nI k else -1)) (by omega) (fun n => ?_) (fun n k hk => ?_)).trans rfl
  · rw [fX3_ringNamed_2, h, if_pos (nI_le (by omega) (by omega)), if_neg (by omega)]
  · rw [fX3_ringNamed_2, h, if_neg (nI_ge hk (by omega)), pb_gd (by omega) (by omega), nI_clamp (by omega), nI_1, if_pos hk]
    simp only [propext (lcmp0 (x := X.2.1 (o + 5) k) (y := nm)), decide_eq_true_eq]
theorem m_seek {b K : Nat} {Y : MM} (hb : b ≤ 21) (hK : K ≤ 7) : fX13_seek (nI b) (nI K) Y = some (fnd (fun p => decide (Y.2.1 5 (b + p) = Y.2.1 0 17)) K) := by
  refine (loop_fst (F := fX13_seek_2 (nI b) (nI K) Y) (f := fun p => decide (Y.2.1 5 (b + p) = Y.2.1 0 17)) (N := K) (fin := fun k => some (if k < K then nI k else -1)) (by omega) (fun n => ?_) (fun n k hk => ?_)).trans rfl
  · rw [fX13_seek_2, if_pos (nI_le (by omega) (by omega)), if_neg (by omega)]
  · rw [fX13_seek_2, if_neg (nI_ge hk (by omega)), nI_add, pb_gd (by omega) (by omega), nI_clamp (by omega), nI_1, if_pos hk]
    simp only [propext (lcmp0 (x := Y.2.1 5 (b + k)) (y := Y.2.1 0 17)), decide_eq_true_eq]
theorem fnd_congr {f g : Nat → Bool} {K : Nat} (h : ∀ j, j < K → f j = g j) : fnd f K = fnd g K := by
  unfold fnd
  rw [pfst_congr K 0 (fun j _ hj => h j (by omega))]
theorem m_isName {Y : MM} (hr : ∀ k, k < 23 → Y.2.1 6 k = resW k) : ∃ r, fX13_isName Y = some r ∧ (r = true ↔ Y.1 0 11 = 1 ∧ ∀ k, k < 23 → Y.2.1 0 17 ≠ resW k) := by
  have key : ∀ c i f b, i + c = 23 → c < f → ∃ r, fX13_isName_16 Y f b (nI i) = some r ∧ (r = true ↔ b = true ∧ ∀ k, i ≤ k → k < 23 → Y.2.1 0 17 ≠ resW k) := by
    intro c
    induction c with
    | zero =>
      intro i f b hi hf
      obtain ⟨f, rfl⟩ : ∃ z, f = z + 1 := ⟨f - 1, by omega⟩
      rw [fX13_isName_16, c23, if_pos (nI_le (by omega) (by omega))]
      exact ⟨b, rfl, fun q => ⟨q, fun k h1 h2 => by omega⟩, fun q => q.1⟩
    | succ c ih =>
      intro i f b hi hf
      obtain ⟨f, rfl⟩ : ∃ z, f = z + 1 := ⟨f - 1, by omega⟩
      rw [fX13_isName_16, c23, if_neg (nI_ge (by omega) (by omega)), pb_gd (by omega) (by omega), nI_clamp (by omega), nI_1, hr i (by omega)]
      simp only [propext (lcmp0 (x := Y.2.1 0 17) (y := resW i))]
      obtain ⟨r0, e0, g0⟩ := ih (i + 1) f false (by omega) (by omega)
      obtain ⟨r1, e1, g1⟩ := ih (i + 1) f true (by omega) (by omega)
      have z0 : ¬ r0 = true := fun q => absurd (g0.mp q).1 (by decide)
      cases b
      · rw [if_pos b_f]
        exact ⟨r0, e0, fun q => absurd q z0, fun q => absurd q.1 (by decide)⟩
      · rw [if_neg b_t]
        by_cases e : Y.2.1 0 17 = resW i
        · rw [if_pos e]
          exact ⟨r0, e0, fun q => absurd q z0, fun q => absurd e (q.2 i (by omega) (by omega))⟩
        · rw [if_neg e]
          refine ⟨r1, e1, fun q => ⟨rfl, fun k h1 h2 => ?_⟩, fun q => g1.mpr ⟨rfl, fun k h1 h2 => q.2 k (by omega) h2⟩⟩
          rcases Nat.lt_or_ge i k with z | z
          · exact (g1.mp q).2 k (by omega) h2
          · have : k = i := by omega
            subst this
            exact e
  rw [fX13_isName]
  by_cases e1 : Y.1 0 11 = 1
  · rw [if_pos e1]
    obtain ⟨r, h1, h2⟩ := key 23 0 mx_fu true (by omega) (by unfold mx_fu; omega)
    exact ⟨r, h1, fun q => ⟨e1, fun k hk => (h2.mp q).2 k (by omega) hk⟩, fun q => h2.mpr ⟨rfl, fun k _ hk => q.2 k hk⟩⟩
  · rw [if_neg e1]
    obtain ⟨r, h1, h2⟩ := key 23 0 mx_fu false (by omega) (by unfold mx_fu; omega)
    exact ⟨r, h1, fun q => absurd (h2.mp q).1 (by decide), fun q => absurd q.1 e1⟩
theorem TK.nm {s : Nat} {X Y : MM} (h : TK s X Y) : (X.1 4 s = 2) = (Y.1 0 11 = 1 ∧ ∀ k, k < 23 → Y.2.1 0 17 ≠ resW k) := by
  apply propext
  rcases h.2.2 with ⟨a1, a2, a3⟩ | ⟨a1, a2, a3⟩ | ⟨a1, a2, a3, a4, a5⟩ | ⟨v, hv, a1, a2, a3, a4, a5⟩ | ⟨c, hc, a1, a2, a3, a4, a5⟩
  · rw [a1, a3]; exact ⟨fun q => absurd q (by decide), fun q => absurd q.1 (by decide)⟩
  · rw [a1, a3]; exact ⟨fun q => absurd q (by decide), fun q => absurd q.1 (by decide)⟩
  · rw [← nm_iff0 a2 a3, a5]
    by_cases q : cod (X.2.1 7 s) = 0
    · rw [if_pos q]; exact ⟨fun _ => ⟨a1, q⟩, fun _ => rfl⟩
    · rw [if_neg q]; exact ⟨fun z => absurd z (by decide), fun z => absurd z.2 q⟩
  · rw [a1, a4]; exact ⟨fun q => absurd q (by decide), fun q => absurd q.1 (by decide)⟩
  · rw [a1, a5]; exact ⟨fun q => absurd q (by decide), fun q => absurd q.1 (by split <;> decide)⟩
theorem TK.rn {s : Nat} {X Y : MM} (h : TK s X Y) (h2 : X.1 4 s = 2) : rN (X.2.1 7 s) (Y.2.1 0 17) := by
  rcases h.2.2 with ⟨a1, a2, a3⟩ | ⟨a1, a2, a3⟩ | ⟨a1, a2, a3, a4, a5⟩ | ⟨v, hv, a1, a2, a3, a4, a5⟩ | ⟨c, hc, a1, a2, a3, a4, a5⟩
  · rw [a1] at h2; exact absurd h2 (by decide)
  · rw [a1] at h2; exact absurd h2 (by decide)
  · exact a2
  · rw [a1] at h2; exact absurd h2 (by decide)
  · rw [a1] at h2; exact absurd h2 (by decide)
theorem p_isName {T : TX} {s : Nat} {X Y : MM} (h : LX T s X Y) : fX13_isName Y = some (decide (X.1 4 s = 2)) := by
  obtain ⟨r, h1, h2⟩ := m_isName h.rs
  rw [← h.tk.nm] at h2
  rw [h1]
  congr 1
  by_cases e : X.1 4 s = 2
  · rw [decide_eq_true e]; exact h2.mpr e
  · rw [decide_eq_false e]
    cases r
    · rfl
    · exact absurd (h2.mp rfl) e
/-- names of K things: a row of the class's, a place in the reference's -/
def NmR (o b K : Nat) (X Y : MM) : Prop := b ≤ 21 ∧ K ≤ 7 ∧ ∀ p, p < K → rN (X.2.1 o p) (Y.2.1 5 (b + p))
theorem NmR.eq {o b K : Nat} {X Y : MM} {nm wd : Int64} (h : NmR o b K X Y) (hw : rN nm wd) : fnd (fun p => decide (X.2.1 o p = nm)) K = fnd (fun p => decide (Y.2.1 5 (b + p) = wd)) K :=
  fnd_congr (fun j hj => decide_eq_decide.mpr (rN_inj (h.2.2 j hj) hw))
/-- a name that is looked up: found by both, or the one fault of both -/
theorem p_looks {T : TX} {s o b K : Nat} {X Y : MM} (h : LX T s X Y) (hN : NmR o b K X Y) : (∃ k, k < K ∧ X.1 4 s = 2 ∧ fnd (fun p => decide (X.2.1 o p = X.2.1 7 s)) K = nI k ∧ fX13_looksAt (nI b) (nI K) Y = some (true, mx_si Y 0 18 (nI k))) ∨ NO X Y (fX7_takeNamed (fnd (fun p => decide (X.2.1 o p = X.2.1 7 s)) K) X) (fX13_looksAt (nI b) (nI K) Y) := by
  rw [fX7_takeNamed, fX13_looksAt, p_isName h, h.x7, h.in_, h.cl]
  simp only [pb_bs, ↓reduceIte]
  by_cases e : X.1 4 s = 2
  · rw [if_pos e, decide_eq_true e, if_neg b_t, m_seek hN.1 hN.2.1, ← hN.eq (h.tk.rn e)]
    simp only [pb_bs, si_eq]
    rcases fnd_cs (f := fun p => decide (X.2.1 o p = X.2.1 7 s)) (K := K) with ⟨k, hk, ek⟩ | ek
    · left
      refine ⟨k, hk, e, ek, ?_⟩
      rw [ek, if_pos (nI_pos' (by have := hN.2.1; omega))]
    · right
      rw [ek, if_pos rfl, if_neg (by decide)]
      obtain ⟨X', Y', a1, a2, a3, a4, a5⟩ := p_fail (h.ys (k := 0) (j := 18) (v := -1) (by omega)) 3
      rw [a1, a2]
      simp only [pb_bs]
      rw [if_pos b_f]
      exact ⟨X', Y', rfl, rfl, a3, (nY.rf.si (by omega)).tr a4, a5⟩
  · right
    rw [if_neg e, decide_eq_false e, if_pos b_f]
    exact (p_fail h 1).b
theorem x_takeNm {T : TX} {s k : Nat} {X Y : MM} (h : LX T s X Y) (e : X.1 4 s = 2) (hk : k < 2 ^ 30) : fX7_takeNamed (nI k) X = some (true, mx_si (mx_si X 3 9 (nI k)) 3 7 (nI (s + 1))) := by
  obtain ⟨b1, -⟩ := (h.xs (k := 3) (j := 9) (v := nI k) (by omega)).adv (by rw [si_nk (by omega), e]; decide) (by rw [si_nk (by omega), e]; decide)
  have hn : ¬ nI k = (-1 : Int32) := fun q => by
    have := nI_pos (n := k) (by omega)
    rw [q] at this
    exact this (by decide)
  rw [fX7_takeNamed, h.x7, h.in_, h.cl]
  simp only [↓reduceIte]
  rw [if_pos e, if_neg hn, b1]
  rfl
theorem p_named {T : TX} {s o b K : Nat} {X Y : MM} (h : LX T s X Y) (hN : NmR o b K X Y) : PT T X Y (fX7_takeNamed (fnd (fun p => decide (X.2.1 o p = X.2.1 7 s)) K) X) (fX13_takesName (nI b) (nI K) Y) (fun X' Y' => ∃ k, k < K ∧ X'.1 3 9 = nI k ∧ Y'.1 0 18 = nI k) := by
  rw [fX13_takesName]
  rcases p_looks h hN with ⟨k, hk, e, ek, el⟩ | ⟨X', Y', a1, a2, a3, a4, a5⟩
  · left
    have h' := (h.xs (k := 3) (j := 9) (v := nI k) (by omega)).ys (k := 0) (j := 18) (v := nI k) (by omega)
    obtain ⟨b1, Y', b2, b3, b4⟩ := h'.adv (by rw [si_nk (by omega), e]; decide) (by rw [si_nk (by omega), e]; decide)
    have hK := hN.2.1
    rw [ek, x_takeNm h e (by omega), el]
    simp only [pb_bs]
    rw [if_neg b_t, b2]
    refine ⟨s + 1, _, Y', rfl, rfl, (nX.rf.si (by omega)).si (by omega), (nY.rf.si (by omega)).tr b3.y, b4, k, hk, ?_, ?_⟩
    · rw [si_nj (by omega), si_eq]
    · rw [b3.1 0 18 (by omega), si_eq]
  · right
    rw [a1, a2]
    simp only [pb_bs]
    rw [if_pos b_f]
    exact ⟨X', Y', rfl, rfl, a3, a4, a5⟩
