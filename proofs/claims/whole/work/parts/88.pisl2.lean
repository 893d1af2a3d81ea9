/-! the draft of an island: a ring, what is told once, a line -/
theorem IR.ring {P N m k v1 v2 o1 o2 : Nat} {X Y X' Y' : MM} {nm wd : Int64} (h : IR P N m k X Y) (hN : N < 7) (b1 : 1 ≤ v1 ∧ v1 ≤ 20) (b2 : o1 < P) (b3 : o2 < P) (b4 : v2 ≤ 300) (hw : rN nm wd) (r19 : X'.1 19 = upd (X.1 19) 1 (nI (N + 1))) (r21 : ∀ a, 21 ≤ a → a ≤ 23 → X'.1 a = X.1 a) (r25 : X'.1 25 = upd (X.1 25) N (nI v1)) (r26 : X'.1 26 = upd (X.1 26) N (nI o1)) (r27 : X'.1 27 = upd (X.1 27) N (nI o2)) (r28 : X'.1 28 = upd (X.1 28) N (nI v2)) (l24 : X'.2.1 24 = vp_updL (X.2.1 24) N nm) (l20 : X'.2.1 20 = X.2.1 20) (y3 : Y'.1 3 = upd (upd (upd (upd (upd (Y.1 3) (26 + N) (nI v1)) (33 + N) (nI o1)) (40 + N) (nI o2)) (47 + N) (nI v2)) 1 (nI (N + 1))) (y5 : Y'.2.1 5 = vp_updL (Y.2.1 5) (21 + N) wd) (yf : iF Y Y') : IR P (N + 1) m k X' Y' := by
  obtain ⟨⟨a1, a2, a3, a4, a5, a6, a7, a8, a9⟩, ⟨c1, c2, c3, c4, c5, c6, c7⟩, d1, d2, d3, d4, d5, d6, d7, d8, d9⟩ := h
  have H : ∀ i, i ≠ 26 + N → i ≠ 33 + N → i ≠ 40 + N → i ≠ 47 + N → i ≠ 1 → Y'.1 3 i = Y.1 3 i := fun i h1 h2 h3 h4 h5 => by rw [y3, pk_un h5, pk_un h4, pk_un h3, pk_un h2, pk_un h1]
  have H1 : Y'.1 3 (26 + N) = nI v1 := by rw [y3, pk_un (by omega), pk_un (by omega), pk_un (by omega), pk_un (by omega), pk_us]
  have H2 : Y'.1 3 (33 + N) = nI o1 := by rw [y3, pk_un (by omega), pk_un (by omega), pk_un (by omega), pk_us]
  have H3 : Y'.1 3 (40 + N) = nI o2 := by rw [y3, pk_un (by omega), pk_un (by omega), pk_us]
  have H4 : Y'.1 3 (47 + N) = nI v2 := by rw [y3, pk_un (by omega), pk_us]
  have H0 : Y'.1 3 1 = nI (N + 1) := by rw [y3, pk_us]
  have x19 : ∀ j, j ≠ 1 → X'.1 19 j = X.1 19 j := fun j hj => by rw [r19, pk_un hj]
  have h0 : Y'.1 3 0 = Y.1 3 0 := H 0 (by omega) (by omega) (by omega) (by omega) (by omega)
  have h2 : Y'.1 3 2 = Y.1 3 2 := H 2 (by omega) (by omega) (by omega) (by omega) (by omega)
  have h3 : Y'.1 3 3 = Y.1 3 3 := H 3 (by omega) (by omega) (by omega) (by omega) (by omega)
  have h4 : Y'.1 3 4 = Y.1 3 4 := H 4 (by omega) (by omega) (by omega) (by omega) (by omega)
  have Hp : ∀ i, 5 ≤ i → i < 26 → Y'.1 3 i = Y.1 3 i := fun i q1 q2 => H i (by omega) (by omega) (by omega) (by omega) (by omega)
  refine ⟨⟨by rw [h0]; exact a1, a2, H0, by omega, by rw [h2]; exact a5, by rw [h3]; exact a6, by rw [h4]; exact a7, ?_, ?_⟩, ⟨?_, ?_, ?_, ?_, ?_, ?_, ?_⟩, ⟨d1.1, a2, ?_⟩, ⟨d2.1, by omega, ?_⟩, d3, by rw [yf.2.2]; exact d4, by rw [x19 15 (by omega)]; exact d5, by rw [x19 16 (by omega)]; exact d6, by rw [x19 17 (by omega)]; exact d7, by rw [x19 14 (by omega)]; exact d8, by rw [yf.2.1]; exact d9⟩
  · intro p hp
    rw [Hp (5 + p) (by omega) (by omega), Hp (12 + p) (by omega) (by omega), Hp (19 + p) (by omega) (by omega)]
    exact a8 p hp
  · intro r hr
    rcases Nat.lt_or_ge r N with q | q
    · rw [H (26 + r) (by omega) (by omega) (by omega) (by omega) (by omega), H (33 + r) (by omega) (by omega) (by omega) (by omega) (by omega), H (40 + r) (by omega) (by omega) (by omega) (by omega) (by omega), H (47 + r) (by omega) (by omega) (by omega) (by omega) (by omega)]
      exact a9 r q
    · have : r = N := by omega
      subst this
      exact ⟨⟨v1, b1.1, b1.2, H1⟩, ⟨o1, b2, H2⟩, ⟨o2, b3, H3⟩, v2, b4, H4⟩
  · rw [x19 0 (by omega), h0]; exact c1
  · rw [r19, pk_us, H0]
  · rw [x19 11 (by omega), h2]; exact c3
  · rw [x19 12 (by omega), h3]; exact c4
  · rw [x19 13 (by omega), h4]; exact c5
  · intro p hp
    show X'.1 21 p = _ ∧ X'.1 22 p = _ ∧ X'.1 23 p = _
    rw [r21 21 (by omega) (by omega), r21 22 (by omega) (by omega), r21 23 (by omega) (by omega), Hp (5 + p) (by omega) (by omega), Hp (12 + p) (by omega) (by omega), Hp (19 + p) (by omega) (by omega)]
    exact c6 p hp
  · intro r hr
    show X'.1 25 r = _ ∧ X'.1 26 r = _ ∧ X'.1 27 r = _ ∧ X'.1 28 r = _
    rw [r25, r26, r27, r28]
    rcases Nat.lt_or_ge r N with q | q
    · rw [pk_un (by omega), pk_un (by omega), pk_un (by omega), pk_un (by omega), H (26 + r) (by omega) (by omega) (by omega) (by omega) (by omega), H (33 + r) (by omega) (by omega) (by omega) (by omega) (by omega), H (40 + r) (by omega) (by omega) (by omega) (by omega) (by omega), H (47 + r) (by omega) (by omega) (by omega) (by omega) (by omega)]
      exact c7 r q
    · have : r = N := by omega
      subst this
      rw [pk_us, pk_us, pk_us, pk_us, H1, H2, H3, H4]
      exact ⟨rfl, rfl, rfl, rfl⟩
  · intro p hp
    rw [l20, y5, pk_uLn (by omega)]
    exact d1.2.2 p hp
  · intro r hr
    rw [l24, y5]
    rcases Nat.lt_or_ge r N with q | q
    · rw [pk_uLn (by omega), pk_uLn (by omega)]
      exact d2.2.2 r q
    · have : r = N := by omega
      subst this
      rw [pk_uLs, pk_uLs]
      exact hw
theorem i_ring {T : TX} {s P N m k : Nat} {X Y : MM} (h : LX T s X Y) (hI : IR P N m k X Y) (h4 : X.1 4 s = 3) : PW T X Y (fX3_readRing X) (fX13_readRing Y) (fun X' Y' => N < 7 ∧ IR P (N + 1) m k X' Y') := by
  obtain ⟨hP7, hN7, x0, y0, x1, y1⟩ := hI.P
  have c7a : (nI N < (7 : Int32)) = (N < 7) := pb_lt (b := 7) (by omega) (by omega)
  have c7b : (nI N = (7 : Int32)) = (N = 7) := propext (nI_eq (b := 7) (by omega) (by omega))
  rw [fX3_readRing, fX13_readRing, x1, y1]
  simp only [c7a, c7b]
  by_cases hN : N = 7
  · rw [if_neg (by omega), if_pos hN]
    right
    exact (p_fail h 4).b.w
  · have hin : mx_in (nI N) 7 = true := pb_in (by omega) (by omega)
    have hcl : (nI N).toNatClampNeg = N := nI_clamp (by omega)
    have e21 : (21 : Int32) + nI N = nI (21 + N) := nI_add 21 N
    have e26 : (26 : Int32) + nI N = nI (26 + N) := nI_add 26 N
    have e33 : (33 : Int32) + nI N = nI (33 + N) := nI_add 33 N
    have e40 : (40 : Int32) + nI N = nI (40 + N) := nI_add 40 N
    have e47 : (47 : Int32) + nI N = nI (47 + N) := nI_add 47 N
    have hi33 : mx_in (nI (33 + N)) 54 = true := pb_in (by omega) (by omega)
    have hi40 : mx_in (nI (40 + N)) 54 = true := pb_in (by omega) (by omega)
    have hc33 : (nI (33 + N)).toNatClampNeg = 33 + N := nI_clamp (by omega)
    have hc40 : (nI (40 + N)).toNatClampNeg = 40 + N := nI_clamp (by omega)
    obtain ⟨a1, Y1, a2, a3, h1⟩ := h.adv (by rw [h4]; decide) (by rw [h4]; decide)
    rw [if_pos (by omega), if_neg hN, a1, a2]
    simp only [pb_bs, p_name h1, hin, hcl, ↓reduceIte, e21, e26, e33, e40, e47, hi33, hi40, hc33, hc40]
    have nm0 : ∃ nm, nm = (mx_si X 3 7 (nI (s + 1))).2.1 7 (s + 1) := ⟨_, rfl⟩
    obtain ⟨nm, enm⟩ := nm0
    rw [← enm]
    have h2 := h1.xl (k := 24) (j := N) (v := nm) (by omega)
    have WX2 : WX X (mx_sl (mx_si X 3 7 (nI (s + 1))) 24 N nm) := (WX.rf.si (by omega)).sl (by omega)
    have i1 : iF Y Y1 := a3.y.i
    have nP : NmR 20 14 P (mx_sl (mx_si X 3 7 (nI (s + 1))) 24 N nm) Y1 := hI.2.2.1.fr (fun p hp => by
      rw [mx_sl_ne (by omega)]
      rfl) (a3.y.lrow (by omega))
    have nN' : NmR 24 21 N (mx_sl (mx_si X 3 7 (nI (s + 1))) 24 N nm) Y1 := hI.2.2.2.1.fr (fun p hp => by
      show (if _ then _ else _) = _
      rw [if_neg (by omega)]
      rfl) (a3.y.lrow (by omega))
    have y30 : Y1.1 3 = Y.1 3 := a3.y.row (by omega)
    rcases p_new (to := 21 + N) h2 nP nN' (by rw [sl_i, si_nk (by omega)]; exact x0) (by rw [sl_i, si_nk (by omega)]; exact x1) (by rw [y30]; exact y0) (by rw [y30]; exact y1) (by omega) with ⟨Y2, b0, b1, b2, b3, b4, b5, h3⟩ | hno
    · rw [b1, b2]
      simp only [pb_bs]
      rw [if_neg b_t, if_neg b_t]
      have WX3 : WX X (mx_si (mx_sl (mx_si X 3 7 (nI (s + 1))) 24 N nm) 3 7 (nI (s + 1 + 1))) := WX2.si (by omega)
      have iY2 := i1.tr b3
      have X2l : ∀ p, (mx_si (mx_sl (mx_si X 3 7 (nI (s + 1))) 24 N nm) 3 7 (nI (s + 1 + 1))).2.1 20 p = X.2.1 20 p := fun p => by
        show (mx_sl (mx_si X 3 7 (nI (s + 1))) 24 N nm).2.1 20 p = _
        rw [mx_sl_ne (by omega)]
        rfl
      have X2r : ∀ a, a ≠ 3 → (mx_si (mx_sl (mx_si X 3 7 (nI (s + 1))) 24 N nm) 3 7 (nI (s + 1 + 1))).1 a = X.1 a := fun a ha => by rw [si_row ha, sl_row, si_row ha]
      have X2n : (mx_si (mx_sl (mx_si X 3 7 (nI (s + 1))) 24 N nm) 3 7 (nI (s + 1 + 1))).2.1 24 = vp_updL (X.2.1 24) N nm := by
        show (mx_sl (mx_si X 3 7 (nI (s + 1))) 24 N nm).2.1 24 = _
        rw [mx_sl_eq]
        rfl
      have Y2l : ∀ p, p < P → Y2.2.1 5 (14 + p) = Y.2.1 5 (14 + p) := fun p hp => by rw [b5, pk_uLn (by omega), a3.y.lrow (by omega)]
      generalize mx_si (mx_sl (mx_si X 3 7 (nI (s + 1))) 24 N nm) 3 7 (nI (s + 1 + 1)) = X2 at WX3 h3 X2l X2r X2n ⊢
      rw [show (1 : Int32) = nI 1 from rfl, show (20 : Int32) = nI 20 from rfl]
      rcases p_puts (lo := 1) (hi := 20) (k := 26 + N) h3 (by omega) (by omega) (by omega) with ⟨s3, X3, Y3, v1, d1, d2, d3, d4, d5, d6, d7, d8, h4', d9⟩ | hno
      · rw [d3, d4]
        simp only [pb_bs]
        rw [if_neg b_t, if_neg b_t, d9]
        have h5 := h4'.xs (k := 25) (j := N) (v := nI v1) (by omega)
        have WX4 := (WX3.tr d5.w).si (k := 25) (j := N) (v := nI v1) (by omega)
        have iY3 := iY2.tr d6
        have y3P : Y3.1 3 0 = nI P := by rw [d7, pk_un (by omega), b4, y30]; exact y0
        have nP3 : NmR 20 14 P (mx_si X3 25 N (nI v1)) Y3 := ⟨by omega, hP7, fun p hp => by
          rw [d8, Y2l p hp]
          show rN (X3.2.1 20 p) _
          rw [d5.2, X2l p]
          exact hI.2.2.1.2.2 p hp⟩
        have x3P : (mx_si X3 25 N (nI v1)).1 19 0 = nI P := by rw [si_nk (by omega), d5.row (by omega), X2r 19 (by omega)]; exact x0
        rw [p_name h5, y3P]
        simp only [pb_bs]
        rw [x_pNamed x3P hP7, show (14 : Int32) = nI 14 from rfl]
        simp only [pb_bs]
        rcases p_named h5 nP3 with ⟨s4, X4, Y4, f1, f2, f3, f4, h6, o1, f5, f6, f7⟩ | hno
        · rw [f1, f2]
          simp only [pb_bs]
          rw [if_neg b_t, if_neg b_t, f6, f7]
          have h7 := (h6.xs (k := 26) (j := N) (v := nI o1) (by omega)).ys (k := 3) (j := 33 + N) (v := nI o1) (by omega)
          have WX5 := (WX4.tr f3.w).si (k := 26) (j := N) (v := nI o1) (by omega)
          have iY4 : iF Y (mx_si Y4 3 (33 + N) (nI o1)) := (iY3.tr f4.i).h
          have y43 : (mx_si Y4 3 (33 + N) (nI o1)).1 3 = upd (upd (Y.1 3) (26 + N) (nI v1)) (33 + N) (nI o1) := by rw [mx_si_eq, f4.row (by omega), d7, b4, y30]
          have y4P : (mx_si Y4 3 (33 + N) (nI o1)).1 3 0 = nI P := by rw [y43, pk_un (by omega), pk_un (by omega)]; exact y0
          have nP4 : NmR 20 14 P (mx_si X4 26 N (nI o1)) (mx_si Y4 3 (33 + N) (nI o1)) := ⟨by omega, hP7, fun p hp => by
            show rN (X4.2.1 20 p) (Y4.2.1 5 (14 + p))
            rw [f3.2, f4.lrow (by omega)]
            exact nP3.2.2 p hp⟩
          have x4P : (mx_si X4 26 N (nI o1)).1 19 0 = nI P := by rw [si_nk (by omega), f3.row (by omega)]; exact x3P
          rw [p_name h7, y4P]
          simp only [pb_bs]
          rw [x_pNamed x4P hP7]
          simp only [pb_bs]
          rcases p_named h7 nP4 with ⟨s5, X5, Y5, g1, g2, g3, g4, h8, o2, g5, g6, g7⟩ | hno
          · rw [g1, g2]
            simp only [pb_bs]
            rw [if_neg b_t, if_neg b_t, g6, g7]
            have h9 := (h8.xs (k := 27) (j := N) (v := nI o2) (by omega)).ys (k := 3) (j := 40 + N) (v := nI o2) (by omega)
            have WX6 := (WX5.tr g3.w).si (k := 27) (j := N) (v := nI o2) (by omega)
            have iY5 : iF Y (mx_si Y5 3 (40 + N) (nI o2)) := (iY4.tr g4.i).h
            have y53 : (mx_si Y5 3 (40 + N) (nI o2)).1 3 = upd (upd (upd (Y.1 3) (26 + N) (nI v1)) (33 + N) (nI o1)) (40 + N) (nI o2) := by rw [mx_si_eq, g4.row (by omega), y43]
            rw [show (0 : Int32) = nI 0 from rfl, show (300 : Int32) = nI 300 from rfl]
            rcases p_puts (lo := 0) (hi := 300) (k := 47 + N) h9 (by omega) (by omega) (by omega) with ⟨s6, X6, Y6, v2, k1, k2, k3, k4, k5, k6, k7, k8, h10, k9⟩ | hno
            · rw [k3, k4]
              simp only [pb_bs]
              rw [if_neg (show ¬ mx_b true = nI 0 from b_t), if_neg (show ¬ mx_b true = nI 0 from b_t), k9]
              left
              have r19 : X6.1 19 = X.1 19 := by rw [k5.row (by omega), si_row (by omega), g3.row (by omega), si_row (by omega), f3.row (by omega), si_row (by omega), d5.row (by omega), X2r 19 (by omega)]
              have y63 : Y6.1 3 = upd (upd (upd (upd (Y.1 3) (26 + N) (nI v1)) (33 + N) (nI o1)) (40 + N) (nI o2)) (47 + N) (nI v2) := by rw [k7, y53]
              have y6N : Y6.1 3 1 = nI N := by rw [y63, pk_un (by omega), pk_un (by omega), pk_un (by omega), pk_un (by omega)]; exact y1
              have x6N : (mx_si X6 28 N (nI v2)).1 19 1 = nI N := by rw [si_nk (by omega), r19]; exact x1
              have iA : iF Y Y6 := iY5.tr k6
              rw [x6N, y6N, nI_add]
              refine ⟨s6, _, _, rfl, rfl, ((WX6.tr k5.w).si (by omega)).si (by omega), iA.h.1, (h10.xs (by omega)).xs (by omega) |>.ys (by omega), by omega, ?_⟩
              refine hI.ring (nm := nm) (wd := Y1.2.1 0 17) (v1 := v1) (v2 := v2) (o1 := o1) (o2 := o2) (by omega) ⟨d1, d2⟩ f5 g5 k2 ?_ ?_ ?_ ?_ ?_ ?_ ?_ ?_ ?_ ?_ ?_ iA.h
              · have : (mx_sl (mx_si X 3 7 (nI (s + 1))) 24 N nm).2.1 7 (s + 1) = nm := by rw [mx_sl_ne (by omega)]; exact enm.symm
                rw [← this]; exact b0
              · rw [mx_si_eq, si_row (by omega), r19]
              · intro a q1 q2
                rw [si_row (by omega), si_row (by omega), k5.row (by omega), si_row (by omega), g3.row (by omega), si_row (by omega), f3.row (by omega), si_row (by omega), d5.row (by omega), X2r a (by omega)]
              · rw [si_row (by omega), si_row (by omega), k5.row (by omega), si_row (by omega), g3.row (by omega), si_row (by omega), f3.row (by omega), mx_si_eq, d5.row (by omega), X2r 25 (by omega)]
              · rw [si_row (by omega), si_row (by omega), k5.row (by omega), si_row (by omega), g3.row (by omega), mx_si_eq, f3.row (by omega), si_row (by omega), d5.row (by omega), X2r 26 (by omega)]
              · rw [si_row (by omega), si_row (by omega), k5.row (by omega), mx_si_eq, g3.row (by omega), si_row (by omega), f3.row (by omega), si_row (by omega), d5.row (by omega), X2r 27 (by omega)]
              · rw [si_row (by omega), mx_si_eq, k5.row (by omega), si_row (by omega), g3.row (by omega), si_row (by omega), f3.row (by omega), si_row (by omega), d5.row (by omega), X2r 28 (by omega)]
              · show X6.2.1 24 = _
                rw [k5.2]
                show X5.2.1 24 = _
                rw [g3.2]
                show X4.2.1 24 = _
                rw [f3.2]
                show X3.2.1 24 = _
                rw [d5.2, X2n]
              · show X6.2.1 20 = _
                rw [k5.2]
                show X5.2.1 20 = _
                rw [g3.2]
                show X4.2.1 20 = _
                rw [f3.2]
                show X3.2.1 20 = _
                rw [d5.2]
                funext p
                exact X2l p
              · rw [mx_si_eq, y63]
              · show Y6.2.1 5 = _
                rw [k8]
                show Y5.2.1 5 = _
                rw [g4.lrow (by omega)]
                show Y4.2.1 5 = _
                rw [f4.lrow (by omega), d8, b5, a3.y.lrow (by omega)]
            · right
              exact (hno.w.bk WX6 iY5.1).go (fun M => rfl) (fun M => rfl)
          · right
            exact (hno.w.bk WX5 iY4.1).go (fun M => rfl) (fun M => rfl)
        · right
          exact (hno.w.bk WX4 iY3.1).go (fun M => rfl) (fun M => rfl)
      · right
        exact (hno.w.bk WX3 iY2.1).go (fun M => rfl) (fun M => rfl)
    · right
      exact (hno.w.bk WX2 i1.1).go (fun M => rfl) (fun M => rfl)
