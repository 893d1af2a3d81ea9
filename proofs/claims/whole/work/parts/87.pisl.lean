/-! frames of the three readers of texts -/
theorem sl_row {M : MM} {k j a : Nat} {v : Int64} : (mx_sl M k j v).1 a = M.1 a := rfl
def WX (X X' : MM) : Prop := xKq X X' ∧ X'.1 149 = X.1 149 ∧ (∀ j, 5 ≤ j → X'.1 138 j = X.1 138 j) ∧ X'.1 1 = X.1 1 ∧ X'.1 2 = X.1 2
def WY (Y Y' : MM) : Prop := yKq Y Y' ∧ (∀ j, j = 2 ∨ j = 30 ∨ j = 31 ∨ j = 32 ∨ j = 41 → Y'.1 0 j = Y.1 0 j) ∧ Y'.1 16 = Y.1 16 ∧ Y'.1 1 = Y.1 1
theorem WX.rf {X : MM} : WX X X := ⟨xKq.rf, rfl, fun _ _ => rfl, rfl, rfl⟩
theorem WY.rf {Y : MM} : WY Y Y := ⟨yKq.rf, fun _ _ => rfl, rfl, rfl⟩
theorem WX.tr {X X1 X2 : MM} (a : WX X X1) (b : WX X1 X2) : WX X X2 := ⟨a.1.tr b.1, b.2.1.trans a.2.1, fun j h => (b.2.2.1 j h).trans (a.2.2.1 j h), b.2.2.2.1.trans a.2.2.2.1, b.2.2.2.2.trans a.2.2.2.2⟩
theorem WY.tr {Y Y1 Y2 : MM} (a : WY Y Y1) (b : WY Y1 Y2) : WY Y Y2 := ⟨a.1.tr b.1, fun j h => (b.2.1 j h).trans (a.2.1 j h), b.2.2.1.trans a.2.2.1, b.2.2.2.trans a.2.2.2⟩
theorem WX.si {X X' : MM} {k j : Nat} {v : Int32} (h : WX X X') (hk : (3 ≤ k ∧ k ≤ 8) ∨ (19 ≤ k ∧ k ≤ 28) ∨ (134 ≤ k ∧ k ≤ 137) ∨ (k = 138 ∧ j < 5) ∨ (139 ≤ k ∧ k ≤ 142)) : WX X (mx_si X' k j v) :=
  h.tr ⟨xKq.rf.si (by omega), si_row (by omega), fun i hi => by
    show (if _ then _ else _) = _
    rw [if_neg (by omega)], si_row (by omega), si_row (by omega)⟩
theorem WX.sl {X X' : MM} {k j : Nat} {v : Int64} (h : WX X X') (hk : k ≤ 8 ∨ (19 ≤ k ∧ k ≤ 28)) : WX X (mx_sl X' k j v) := h.tr ⟨xKq.rf.sl hk, rfl, fun _ _ => rfl, rfl, rfl⟩
theorem WX.sr {X X' : MM} {k j v : Nat} (h : WX X X') (hk : k ≤ 8 ∨ (k = 135 ∧ v < 24)) : WX X (mx_sr X' k j v) := h.tr ⟨xKq.rf.sr hk, rfl, fun _ _ => rfl, rfl, rfl⟩
theorem WY.si {Y Y' : MM} {k j : Nat} {v : Int32} (h : WY Y Y') (hk : (k = 0 ∧ (j = 0 ∨ (3 ≤ j ∧ j ≤ 22) ∨ j = 39 ∨ 42 ≤ j)) ∨ k = 3 ∨ k = 4 ∨ k = 17) : WY Y (mx_si Y' k j v) :=
  h.tr ⟨yKq.rf.si (by omega), fun i hi => by
    show (if _ then _ else _) = _
    rw [if_neg (by omega)], si_row (by omega), si_row (by omega)⟩
theorem WY.sl {Y Y' : MM} {k j : Nat} {v : Int64} (h : WY Y Y') (hk : k = 0 ∨ (k = 5 ∧ 14 ≤ j)) : WY Y (mx_sl Y' k j v) := h.tr ⟨yKq.rf.sl hk, fun _ _ => rfl, rfl, rfl⟩
theorem nX.w {X X' : MM} (h : nX X X') : WX X X' := ⟨⟨fun k hk => h.row (by omega), h.1 _ _ (by omega), fun k hk => by rw [h.2], fun k hk => by rw [h.2], fun q i hi => by rw [h.2]; exact q i hi⟩, h.row (by omega), fun j hj => h.1 _ _ (by omega), h.row (by omega), h.row (by omega)⟩
theorem nY.w {Y Y' : MM} (h : nY Y Y') : WY Y Y' := ⟨⟨h.row (by omega), h.row (by omega), h.row (by omega), h.row (by omega), h.row (by omega), h.row (by omega), h.row (by omega), fun j hj => h.1 _ _ (by omega), fun i hi => h.2 _ _ (by omega), h.lrow (by omega), h.lrow (by omega)⟩, fun j hj => h.1 _ _ (by omega), h.row (by omega), h.row (by omega)⟩
def NW (X Y : MM) (a b : Option (Bool × MM)) : Prop := ∃ X' Y', a = some (false, X') ∧ b = some (false, Y') ∧ WX X X' ∧ WY Y Y' ∧ FL X' Y'
def PW (T : TX) (X Y : MM) (a b : Option (Bool × MM)) (Q : MM → MM → Prop) : Prop :=
  (∃ s X' Y', a = some (true, X') ∧ b = some (true, Y') ∧ WX X X' ∧ WY Y Y' ∧ LX T s X' Y' ∧ Q X' Y') ∨ NW X Y a b
theorem NO.w {X Y : MM} {a b : Option (Bool × MM)} (h : NO X Y a b) : NW X Y a b := by
  obtain ⟨X', Y', a1, a2, a3, a4, a5⟩ := h
  exact ⟨X', Y', a1, a2, a3.w, a4.w, a5⟩
theorem NW.b {X Y : MM} {a b : Option (Bool × MM)} (h : NW X Y a b) : NW X Y (a.bind fun q => some (q.1, q.2)) (b.bind fun q => some (q.1, q.2)) := by
  obtain ⟨X', Y', e1, e2, e3⟩ := h
  rw [e1, e2]
  exact ⟨X', Y', rfl, rfl, e3⟩
theorem PW.b {T : TX} {X Y : MM} {a b : Option (Bool × MM)} {Q : MM → MM → Prop} (h : PW T X Y a b Q) : PW T X Y (a.bind fun q => some (q.1, q.2)) (b.bind fun q => some (q.1, q.2)) Q := by
  rcases h with ⟨s, X', Y', e1, e2, e3⟩ | h
  · left
    rw [e1, e2]
    exact ⟨s, X', Y', rfl, rfl, e3⟩
  · right; exact h.b
/-- a fault, seen from an earlier place -/
theorem NW.bk {X Y X0 Y0 : MM} {a b : Option (Bool × MM)} (h : NW X Y a b) (hX : WX X0 X) (hY : WY Y0 Y) : NW X0 Y0 a b := by
  obtain ⟨X', Y', e1, e2, e3, e4, e5⟩ := h
  exact ⟨X', Y', e1, e2, hX.tr e3, hY.tr e4, e5⟩
/-- a fault goes through what stands behind it -/
theorem NW.go {X Y : MM} {a b : Option (Bool × MM)} {f g : Bool × MM → Option (Bool × MM)} (h : NW X Y a b) (hf : ∀ M, f (false, M) = some (false, M)) (hg : ∀ M, g (false, M) = some (false, M)) : NW X Y (a.bind f) (b.bind g) := by
  obtain ⟨X', Y', e1, e2, e3⟩ := h
  rw [e1, e2]
  exact ⟨X', Y', (pb_bs).trans (hf X'), (pb_bs).trans (hg Y'), e3⟩
/-! the draft of an island -/
def IR (P N m k : Nat) (X Y : MM) : Prop := wLd (Y.1 3) P N ∧ rLo 19 X (Y.1 3) P N ∧ NmR 20 14 P X Y ∧ NmR 24 21 N X Y ∧ m < 8 ∧ Y.1 0 20 = nI m ∧ X.1 19 15 = mx_b (m.testBit 0) ∧ X.1 19 16 = mx_b (m.testBit 1) ∧ X.1 19 17 = mx_b (m.testBit 2) ∧ X.1 19 14 = nI k ∧ Y.1 0 19 = nI k
theorem IR.P {P N m k : Nat} {X Y : MM} (h : IR P N m k X Y) : P ≤ 7 ∧ N ≤ 7 ∧ X.1 19 0 = nI P ∧ Y.1 3 0 = nI P ∧ X.1 19 1 = nI N ∧ Y.1 3 1 = nI N := ⟨h.1.2.1, h.1.2.2.2.1, h.2.1.1.trans h.1.1, h.1.1, h.2.1.2.1.trans h.1.2.2.1, h.1.2.2.1⟩
def iF (Y Y' : MM) : Prop := WY Y Y' ∧ Y'.1 0 19 = Y.1 0 19 ∧ Y'.1 0 20 = Y.1 0 20
theorem iF.rf {Y : MM} : iF Y Y := ⟨WY.rf, rfl, rfl⟩
theorem iF.tr {Y Y1 Y2 : MM} (a : iF Y Y1) (b : iF Y1 Y2) : iF Y Y2 := ⟨a.1.tr b.1, b.2.1.trans a.2.1, b.2.2.trans a.2.2⟩
theorem nY.i {Y Y' : MM} (h : nY Y Y') : iF Y Y' := ⟨h.w, h.1 _ _ (by omega), h.1 _ _ (by omega)⟩
theorem iF.h {Y Y' : MM} {j : Nat} {v : Int32} (h : iF Y Y') : iF Y (mx_si Y' 3 j v) := h.tr ⟨WY.rf.si (by omega), si_nk (by omega), si_nk (by omega)⟩
theorem p_puts {T : TX} {s lo hi k : Nat} {X Y : MM} (h : LX T s X Y) (hlo : lo ≤ 1000) (hhi : hi ≤ 1000) (hk : k < 54) : (∃ s' X' Y' v, lo ≤ v ∧ v ≤ hi ∧ fX7_takeNumber (nI lo) (nI hi) X = some (true, X') ∧ fX13_puts (nI k) (nI lo) (nI hi) Y = some (true, Y') ∧ nX X X' ∧ iF Y Y' ∧ Y'.1 3 = upd (Y.1 3) k (nI v) ∧ Y'.2.1 5 = Y.2.1 5 ∧ LX T s' X' Y' ∧ X'.1 3 9 = nI v) ∨ NO X Y (fX7_takeNumber (nI lo) (nI hi) X) (fX13_puts (nI k) (nI lo) (nI hi) Y) := by
  rw [fX13_puts]
  rcases p_num h hlo hhi with ⟨s', X', Y', a1, a2, a3, a4, a5, v, b1, b2, b3, b4⟩ | ⟨X', Y', a1, a2, a3, a4, a5⟩
  · left
    refine ⟨s', X', mx_si Y' 3 k (nI v), v, b1, b2, a1, ?_, a3, a4.i.h, ?_, ?_, a5.ys (by omega), b3⟩
    · rw [a2]
      simp only [pb_bs]
      rw [if_neg b_t, pb_gd hk (by omega), nI_clamp (by omega), b4]
    · rw [mx_si_eq, a4.row (by omega)]
    · exact a4.lrow (by omega)
  · right
    rw [a1, a2]
    simp only [pb_bs]
    rw [if_pos b_f]
    exact ⟨X', Y', rfl, rfl, a3, a4, a5⟩
theorem p_new {T : TX} {s to P N : Nat} {X Y : MM} (h : LX T s X Y) (hP : NmR 20 14 P X Y) (hN : NmR 24 21 N X Y) (x0 : X.1 19 0 = nI P) (x1 : X.1 19 1 = nI N) (y0 : Y.1 3 0 = nI P) (y1 : Y.1 3 1 = nI N) (hto : 14 ≤ to ∧ to < 28) : (∃ Y', rN (X.2.1 7 s) (Y.2.1 0 17) ∧ fX3_takeNewName X = some (true, mx_si X 3 7 (nI (s + 1))) ∧ fX13_fresh (nI to) Y = some (true, Y') ∧ iF Y Y' ∧ Y'.1 3 = Y.1 3 ∧ Y'.2.1 5 = vp_updL (Y.2.1 5) to (Y.2.1 0 17) ∧ LX T (s + 1) (mx_si X 3 7 (nI (s + 1))) Y') ∨ NO X Y (fX3_takeNewName X) (fX13_fresh (nI to) Y) := by
  rw [fX3_takeNewName, fX13_fresh, p_isAt h, p_isName h, p_name h]
  simp only [pb_bs]
  by_cases e : X.1 4 s = 2
  · have hw := h.tk.rn e
    rw [decide_eq_true e, if_neg b_t, if_neg b_t, x_pNamed x0 hP.2.1, y0, y1, show (14 : Int32) = nI 14 from rfl, show (21 : Int32) = nI 21 from rfl, m_seek hP.1 hP.2.1, m_seek hN.1 hN.2.1, x_rNamed x1 hN.2.1]
    simp only [pb_bs]
    rw [← hP.eq hw, ← hN.eq hw]
    have hPb := hP.2.1
    have hNb := hN.2.1
    have neg : ∀ {K : Nat} {f : Nat → Bool}, K ≤ 7 → (fnd f K = -1 ∧ ¬ (0 : Int32) ≤ fnd f K ∧ fnd f K < 0) ∨ (fnd f K ≠ -1 ∧ (0 : Int32) ≤ fnd f K ∧ ¬ fnd f K < 0) := by
      intro K f hK
      rcases fnd_cs (f := f) (K := K) with ⟨k, hk, ek⟩ | ek
      · right
        rw [ek]
        have h0 : ¬ nI k < 0 := nI_pos (by omega)
        exact ⟨fun q => by rw [q] at h0; exact h0 (by decide), nI_pos' (by omega), h0⟩
      · left
        rw [ek]
        exact ⟨rfl, by decide, by decide⟩
    have f3 : NO X Y (fX3_takeNewName_38 X) (fX13_fresh_43 (nI to) Y) := (p_fail h 3).b
    rcases neg (f := fun p => decide (X.2.1 20 p = X.2.1 7 s)) hPb with ⟨p1, p2, p3⟩ | ⟨p1, p2, p3⟩
    · rw [if_pos p1, if_neg p2]
      rcases neg (f := fun p => decide (X.2.1 24 p = X.2.1 7 s)) hNb with ⟨q1, q2, q3⟩ | ⟨q1, q2, q3⟩
      · rw [if_pos q1, if_pos q3, pb_gd hto.2 (by omega), nI_clamp (by omega)]
        left
        obtain ⟨b1, Y', b2, b3, b4⟩ := (h.yl (j := to) (v := Y.2.1 0 17)).adv (by rw [e]; decide) (by rw [e]; decide)
        rw [b1, b2]
        refine ⟨Y', hw, rfl, rfl, ?_, ?_, ?_, b4⟩
        · have g := b3.y.i
          exact iF.tr ⟨WY.rf.sl (by omega), rfl, rfl⟩ g
        · exact b3.y.row (by omega)
        · rw [b3.y.lrow (by omega), mx_sl_eq]
      · rw [if_neg q1, if_neg q3]
        right; exact f3
    · rw [if_neg p1, if_pos p2]
      right; exact f3
  · rw [decide_eq_false e, if_pos b_f, if_pos b_f]
    right
    exact (p_fail h 1).b
theorem IR.person {P N m k v1 v2 v3 : Nat} {X Y X' Y' : MM} {nm wd : Int64} (h : IR P N m k X Y) (hP : P < 7) (b1 : v1 ≤ 20) (b2 : v2 ≤ 20) (b3 : 1 ≤ v3 ∧ v3 ≤ 20) (hw : rN nm wd) (r19 : X'.1 19 = upd (X.1 19) 0 (nI (P + 1))) (r21 : X'.1 21 = upd (X.1 21) P (nI v1)) (r22 : X'.1 22 = upd (X.1 22) P (nI v2)) (r23 : X'.1 23 = upd (X.1 23) P (nI v3)) (r25 : ∀ a, 25 ≤ a → a ≤ 28 → X'.1 a = X.1 a) (l20 : X'.2.1 20 = vp_updL (X.2.1 20) P nm) (l24 : X'.2.1 24 = X.2.1 24) (y3 : Y'.1 3 = upd (upd (upd (upd (Y.1 3) (5 + P) (nI v1)) (12 + P) (nI v2)) (19 + P) (nI v3)) 0 (nI (P + 1))) (y5 : Y'.2.1 5 = vp_updL (Y.2.1 5) (14 + P) wd) (yf : iF Y Y') : IR (P + 1) N m k X' Y' := by
  obtain ⟨⟨a1, a2, a3, a4, a5, a6, a7, a8, a9⟩, ⟨c1, c2, c3, c4, c5, c6, c7⟩, d1, d2, d3, d4, d5, d6, d7, d8, d9⟩ := h
  have H : ∀ i, i ≠ 5 + P → i ≠ 12 + P → i ≠ 19 + P → i ≠ 0 → Y'.1 3 i = Y.1 3 i := fun i h1 h2 h3 h4 => by rw [y3, pk_un h4, pk_un h3, pk_un h2, pk_un h1]
  have H1 : Y'.1 3 (5 + P) = nI v1 := by rw [y3, pk_un (by omega), pk_un (by omega), pk_un (by omega), pk_us]
  have H2 : Y'.1 3 (12 + P) = nI v2 := by rw [y3, pk_un (by omega), pk_un (by omega), pk_us]
  have H3 : Y'.1 3 (19 + P) = nI v3 := by rw [y3, pk_un (by omega), pk_us]
  have H0 : Y'.1 3 0 = nI (P + 1) := by rw [y3, pk_us]
  have x19 : ∀ j, j ≠ 0 → X'.1 19 j = X.1 19 j := fun j hj => by rw [r19, pk_un hj]
  refine ⟨⟨H0, by omega, by rw [H 1 (by omega) (by omega) (by omega) (by omega)]; exact a3, a4, ?_, ?_, ?_, ?_, ?_⟩, ⟨?_, ?_, ?_, ?_, ?_, ?_, ?_⟩, ⟨d1.1, by omega, ?_⟩, ⟨d2.1, a4, ?_⟩, d3, by rw [yf.2.2]; exact d4, by rw [x19 15 (by omega)]; exact d5, by rw [x19 16 (by omega)]; exact d6, by rw [x19 17 (by omega)]; exact d7, by rw [x19 14 (by omega)]; exact d8, by rw [yf.2.1]; exact d9⟩
  · rw [H 2 (by omega) (by omega) (by omega) (by omega)]; exact a5
  · rw [H 3 (by omega) (by omega) (by omega) (by omega)]; exact a6
  · rw [H 4 (by omega) (by omega) (by omega) (by omega)]; exact a7
  · intro p hp
    rcases Nat.lt_or_ge p P with q | q
    · rw [H (5 + p) (by omega) (by omega) (by omega) (by omega), H (12 + p) (by omega) (by omega) (by omega) (by omega), H (19 + p) (by omega) (by omega) (by omega) (by omega)]
      exact a8 p q
    · have : p = P := by omega
      subst this
      exact ⟨⟨v1, b1, H1⟩, ⟨v2, b2, H2⟩, v3, b3.1, b3.2, H3⟩
  · intro r hr
    rw [H (26 + r) (by omega) (by omega) (by omega) (by omega), H (33 + r) (by omega) (by omega) (by omega) (by omega), H (40 + r) (by omega) (by omega) (by omega) (by omega), H (47 + r) (by omega) (by omega) (by omega) (by omega)]
    obtain ⟨e1, ⟨o1, e2, e3⟩, ⟨o2, e4, e5⟩, e6⟩ := a9 r hr
    exact ⟨e1, ⟨o1, by omega, e3⟩, ⟨o2, by omega, e5⟩, e6⟩
  · rw [r19, pk_us, H0]
  · rw [x19 1 (by omega), H 1 (by omega) (by omega) (by omega) (by omega)]; exact c2
  · rw [x19 11 (by omega), H 2 (by omega) (by omega) (by omega) (by omega)]; exact c3
  · rw [x19 12 (by omega), H 3 (by omega) (by omega) (by omega) (by omega)]; exact c4
  · rw [x19 13 (by omega), H 4 (by omega) (by omega) (by omega) (by omega)]; exact c5
  · intro p hp
    show X'.1 21 p = _ ∧ X'.1 22 p = _ ∧ X'.1 23 p = _
    rcases Nat.lt_or_ge p P with q | q
    · rw [r21, r22, r23, pk_un (by omega), pk_un (by omega), pk_un (by omega), H (5 + p) (by omega) (by omega) (by omega) (by omega), H (12 + p) (by omega) (by omega) (by omega) (by omega), H (19 + p) (by omega) (by omega) (by omega) (by omega)]
      exact c6 p q
    · have : p = P := by omega
      subst this
      rw [r21, r22, r23, pk_us, pk_us, pk_us, H1, H2, H3]
      exact ⟨rfl, rfl, rfl⟩
  · intro r hr
    show X'.1 25 r = _ ∧ X'.1 26 r = _ ∧ X'.1 27 r = _ ∧ X'.1 28 r = _
    rw [r25 25 (by omega) (by omega), r25 26 (by omega) (by omega), r25 27 (by omega) (by omega), r25 28 (by omega) (by omega), H (26 + r) (by omega) (by omega) (by omega) (by omega), H (33 + r) (by omega) (by omega) (by omega) (by omega), H (40 + r) (by omega) (by omega) (by omega) (by omega), H (47 + r) (by omega) (by omega) (by omega) (by omega)]
    exact c7 r hr
  · intro p hp
    rw [l20, y5]
    rcases Nat.lt_or_ge p P with q | q
    · rw [pk_uLn (by omega), pk_uLn (by omega)]
      exact d1.2.2 p q
    · have : p = P := by omega
      subst this
      rw [pk_uLs, pk_uLs]
      exact hw
  · intro r hr
    rw [l24, y5, pk_uLn (by omega)]
    exact d2.2.2 r hr
theorem NmR.fr {o b K : Nat} {X Y X' Y' : MM} (h : NmR o b K X Y) (hX : ∀ p, p < K → X'.2.1 o p = X.2.1 o p) (hY : Y'.2.1 5 = Y.2.1 5) : NmR o b K X' Y' := ⟨h.1, h.2.1, fun p hp => by rw [hX p hp, hY]; exact h.2.2 p hp⟩
theorem i_person {T : TX} {s P N m k : Nat} {X Y : MM} (h : LX T s X Y) (hI : IR P N m k X Y) (h4 : X.1 4 s = 3) : PW T X Y (fX3_readPerson X) (fX13_readPerson Y) (fun X' Y' => P < 7 ∧ IR (P + 1) N m k X' Y') := by
  obtain ⟨hP7, hN7, x0, y0, x1, y1⟩ := hI.P
  have c7a : (nI P < (7 : Int32)) = (P < 7) := pb_lt (b := 7) (by omega) (by omega)
  have c7b : (nI P = (7 : Int32)) = (P = 7) := propext (nI_eq (b := 7) (by omega) (by omega))
  rw [fX3_readPerson, fX13_readPerson, x0, y0]
  simp only [c7a, c7b]
  by_cases hP : P = 7
  · rw [if_neg (by omega), if_pos hP]
    right
    exact (p_fail h 4).b.w
  · have hin : mx_in (nI P) 7 = true := pb_in (by omega) (by omega)
    have hcl : (nI P).toNatClampNeg = P := nI_clamp (by omega)
    have e14 : (14 : Int32) + nI P = nI (14 + P) := nI_add 14 P
    have e5 : (5 : Int32) + nI P = nI (5 + P) := nI_add 5 P
    have e12 : (12 : Int32) + nI P = nI (12 + P) := nI_add 12 P
    have e19 : (19 : Int32) + nI P = nI (19 + P) := nI_add 19 P
    obtain ⟨a1, Y1, a2, a3, h1⟩ := h.adv (by rw [h4]; decide) (by rw [h4]; decide)
    rw [if_pos (by omega), if_neg hP, a1, a2]
    simp only [pb_bs, p_name h1, hin, hcl, ↓reduceIte, e14, e5, e12, e19]
    have nm0 : ∃ nm, nm = (mx_si X 3 7 (nI (s + 1))).2.1 7 (s + 1) := ⟨_, rfl⟩
    obtain ⟨nm, enm⟩ := nm0
    rw [← enm]
    have h2 := h1.xl (k := 20) (j := P) (v := nm) (by omega)
    have WX2 : WX X (mx_sl (mx_si X 3 7 (nI (s + 1))) 20 P nm) := (WX.rf.si (by omega)).sl (by omega)
    have i1 : iF Y Y1 := a3.y.i
    have nP : NmR 20 14 P (mx_sl (mx_si X 3 7 (nI (s + 1))) 20 P nm) Y1 := hI.2.2.1.fr (fun p hp => by
      show (if _ then _ else _) = _
      rw [if_neg (by omega)]
      rfl) (a3.y.lrow (by omega))
    have nN' : NmR 24 21 N (mx_sl (mx_si X 3 7 (nI (s + 1))) 20 P nm) Y1 := hI.2.2.2.1.fr (fun p hp => by
      rw [mx_sl_ne (by omega)]
      rfl) (a3.y.lrow (by omega))
    have y30 : Y1.1 3 = Y.1 3 := a3.y.row (by omega)
    rcases p_new (to := 14 + P) h2 nP nN' (by rw [sl_i, si_nk (by omega)]; exact x0) (by rw [sl_i, si_nk (by omega)]; exact x1) (by rw [y30]; exact y0) (by rw [y30]; exact y1) (by omega) with ⟨Y2, b0, b1, b2, b3, b4, b5, h3⟩ | hno
    · rw [b1, b2]
      simp only [pb_bs]
      rw [if_neg b_t, if_neg b_t]
      have WX3 : WX X (mx_si (mx_sl (mx_si X 3 7 (nI (s + 1))) 20 P nm) 3 7 (nI (s + 1 + 1))) := WX2.si (by omega)
      rcases p_puts (lo := 0) (hi := 20) (k := 5 + P) h3 (by omega) (by omega) (by omega) with ⟨s3, X3, Y3, v1, d1, d2, d3, d4, d5, d6, d7, d8, h4', d9⟩ | hno
      · rw [show (0 : Int32) = nI 0 from rfl, show (20 : Int32) = nI 20 from rfl, show (1 : Int32) = nI 1 from rfl, d3, d4]
        simp only [pb_bs]
        rw [if_neg (show ¬ mx_b true = nI 0 from b_t), if_neg (show ¬ mx_b true = nI 0 from b_t), d9]
        rcases p_puts (lo := 0) (hi := 20) (k := 12 + P) (h4'.xs (k := 21) (j := P) (v := nI v1) (by omega)) (by omega) (by omega) (by omega) with ⟨s4, X4, Y4, v2, f1, f2, f3, f4, f5, f6, f7, f8, h5, f9⟩ | hno
        · rw [f3, f4]
          simp only [pb_bs]
          rw [if_neg (show ¬ mx_b true = nI 0 from b_t), if_neg (show ¬ mx_b true = nI 0 from b_t), f9]
          rcases p_puts (lo := 1) (hi := 20) (k := 19 + P) (h5.xs (k := 22) (j := P) (v := nI v2) (by omega)) (by omega) (by omega) (by omega) with ⟨s5, X5, Y5, v3, g1, g2, g3, g4, g5, g6, g7, g8, h6, g9⟩ | hno
          · rw [g3, g4]
            simp only [pb_bs]
            rw [if_neg (show ¬ mx_b true = nI 0 from b_t), if_neg (show ¬ mx_b true = nI 0 from b_t), g9]
            left
            have r19 : X5.1 19 = X.1 19 := by rw [g5.row (by omega), si_row (by omega), f5.row (by omega), si_row (by omega), d5.row (by omega), si_row (by omega), sl_row, si_row (by omega)]
            have y50 : Y5.1 3 = upd (upd (upd (Y.1 3) (5 + P) (nI v1)) (12 + P) (nI v2)) (19 + P) (nI v3) := by rw [g7, f7, d7, b4, y30]
            have y5P : Y5.1 3 0 = nI P := by rw [y50, pk_un (by omega), pk_un (by omega), pk_un (by omega)]; exact y0
            have iA : iF Y Y5 := (((i1.tr b3).tr d6).tr f6).tr g6
            have x5P : (mx_si X5 23 P (nI v3)).1 19 0 = nI P := by rw [si_nk (by omega), r19]; exact x0
            rw [x5P, y5P, nI_add]
            refine ⟨s5, _, _, rfl, rfl, (((((WX3.tr d5.w).si (by omega)).tr f5.w).si (by omega)).tr g5.w |>.si (by omega)).si (by omega), (iA.h).1, (h6.xs (by omega)).xs (by omega) |>.ys (by omega), by omega, ?_⟩
            refine hI.person (nm := nm) (wd := Y1.2.1 0 17) (v1 := v1) (v2 := v2) (v3 := v3) (by omega) d2 f2 ⟨g1, g2⟩ ?_ ?_ ?_ ?_ ?_ ?_ ?_ ?_ ?_ ?_ iA.h
            · have : (mx_sl (mx_si X 3 7 (nI (s + 1))) 20 P nm).2.1 7 (s + 1) = nm := by rw [mx_sl_ne (by omega)]; exact enm.symm
              rw [← this]; exact b0
            · rw [mx_si_eq, si_row (by omega), r19]
            · rw [si_row (by omega), si_row (by omega), g5.row (by omega), si_row (by omega), f5.row (by omega), mx_si_eq, d5.row (by omega), si_row (by omega)]
              rfl
            · rw [si_row (by omega), si_row (by omega), g5.row (by omega), mx_si_eq, f5.row (by omega), si_row (by omega), d5.row (by omega), si_row (by omega)]
              rfl
            · rw [si_row (by omega), mx_si_eq, g5.row (by omega), si_row (by omega), f5.row (by omega), si_row (by omega), d5.row (by omega), si_row (by omega)]
              rfl
            · intro a q1 q2
              rw [si_row (by omega), si_row (by omega), g5.row (by omega), si_row (by omega), f5.row (by omega), si_row (by omega), d5.row (by omega), si_row (by omega)]
              exact si_row (by omega)
            · show X5.2.1 20 = _
              rw [g5.2]
              show X4.2.1 20 = _
              rw [f5.2]
              show X3.2.1 20 = _
              rw [d5.2]
              show (mx_sl (mx_si X 3 7 (nI (s + 1))) 20 P nm).2.1 20 = _
              rw [mx_sl_eq]
              rfl
            · show X5.2.1 24 = _
              rw [g5.2]
              show X4.2.1 24 = _
              rw [f5.2]
              show X3.2.1 24 = _
              rw [d5.2]
              show (mx_sl (mx_si X 3 7 (nI (s + 1))) 20 P nm).2.1 24 = _
              rw [mx_sl_ne (by omega)]
              rfl
            · rw [mx_si_eq, y50]
            · show Y5.2.1 5 = _
              rw [g8, f8, d8, b5, a3.y.lrow (by omega)]
          · right
            exact (hno.w.bk (((WX3.tr d5.w).si (by omega)).tr f5.w |>.si (by omega)) (((i1.tr b3).tr d6).tr f6).1).go (fun M => rfl) (fun M => rfl)
        · right
          exact (hno.w.bk ((WX3.tr d5.w).si (by omega)) ((i1.tr b3).tr d6).1).go (fun M => rfl) (fun M => rfl)
      · right
        exact (hno.w.bk WX3 (i1.tr b3).1).go (fun M => rfl) (fun M => rfl)
    · right
      exact (hno.w.bk WX2 i1.1).go (fun M => rfl) (fun M => rfl)
