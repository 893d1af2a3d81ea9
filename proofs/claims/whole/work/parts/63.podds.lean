/-! odds; reach, inTime; chain, closed -/
theorem rSt_hold {o r P N : Nat} {X : MM} {S : Nat → Int32} (hR : rSt o X S P N) (hr : r < N) (hW : wSt S P N) (q : Nat) (hq : q < 7) (hP : P ≤ 7) : (X.1 (o + 4) r = nI q) = (sHas S (nI q) r = true) := by
  obtain ⟨-, -, h3, h4⟩ := hR.2.2.2.2 r hr
  unfold sHas
  by_cases h2 : S (85 + r) = 2
  · rw [(h4 h2).1]
    have : ¬ (-1 : Int32) = nI q := fun e => by
      have h0 : ¬ nI q < 0 := nI_pos (by omega)
      rw [← e] at h0
      exact h0 (by decide)
    simp [h2, this]
  · rw [h3 h2]; simp [h2]
theorem q_odds {X Y : MM} {P N : Nat} {i n x : Int32} (h : Inv X Y P N) : RW (fX12_odds i n x X) (fX13_odds i n x Y) := by
  have hP := h.p7
  have hN := h.n7
  have e30 : fX13_isIn n (1 : Int32) (30 : Int32) (mx_si Y 0 0 (0 : Int32)) = _ := isIn1 (n := 30) (by omega)
  rw [fX12_odds, fX13_odds, x_isRing h.x1 hN, m_isRing (th2.trans h.y1) hN, e30]
  simp only [pb_bs]
  rcases in_cases i N (by omega) with hr | ⟨r, hr, rfl⟩
  · rw [hr, if_pos b_f, if_pos b_f]; exact ⟨_, _, _, rfl, rfl, P, N, h.th⟩
  rw [pb_in hr (by omega), if_neg b_t, if_neg b_t]
  by_cases h1 : n < 1
  · rw [if_pos h1, if_pos h1, if_pos b_f]; exact ⟨_, _, _, rfl, rfl, P, N, h.th⟩
  rw [if_neg h1, if_neg h1]
  by_cases h2 : n ≤ nI 30
  rotate_left
  · have h2' : ¬ n ≤ 30 := h2
    rw [if_neg h2', decide_eq_false h2, if_pos b_f]; exact ⟨_, _, _, rfl, rfl, P, N, h.th⟩
  have h2' : n ≤ 30 := h2
  obtain ⟨K, k1, k2, rfl⟩ := of1 (by omega) h1 h2
  rw [if_pos h2', decide_eq_true h2, if_neg b_t, m_tries]
  simp only [pb_bs]
  obtain ⟨-, ⟨w, hw, ew⟩, -⟩ := h.ld.2.2.2.2.2.2.2.2 r hr
  -- the memory with a seed in it
  generalize hYt : cpR (mx_si Y 0 0 (0 : Int32)) 8 (fun i => (mx_si Y 0 0 (0 : Int32)).1 2 (54 + i)) 0 59 = Yt
  have t2 : Yt.1 2 = Y.1 2 := by rw [← hYt, cpR_n (by omega), th2']
  have t8 : ∀ j, j < 59 → Yt.1 8 j = Y.1 2 (54 + j) := fun j hj => by
    rw [← hYt]
    have := cpR_in (Y := mx_si Y 0 0 (0 : Int32)) (c := 8) (b := 0) (n := 59) (j := j) (f := fun i => (mx_si Y 0 0 (0 : Int32)).1 2 (54 + i)) hj
    rw [Nat.zero_add] at this
    rw [this, th2]
  have key : ∀ (c k f : Nat) (X1 : MM) (s many : Int32), k + c = K → c < f → xFr 47 X X1 → ∃ v X2 s', fX12_odds_30 (nI r) (nI K) x f many (nI k) X1 = some (v, X2) ∧ fX13_odds_35 (nI r) (nI K) x f many (nI k) (mS Yt s (Y.1 2)) = some (v, mS Yt s' (Y.1 2)) ∧ xFr 47 X X2 := by
    intro c
    induction c with
    | zero =>
      intro k f X1 s many hk hf hx
      obtain ⟨f, rfl⟩ : ∃ z, f = z + 1 := ⟨f - 1, by omega⟩
      have hk : k = K := by omega
      subst hk
      rw [fX12_odds_30, fX13_odds_35, if_pos (nI_le (Nat.le_refl _) (by omega)), if_pos (nI_le (Nat.le_refl _) (by omega))]
      exact ⟨_, _, _, rfl, rfl, hx⟩
    | succ c ih =>
      intro k f X1 s many hk hf hx
      obtain ⟨f, rfl⟩ : ∃ z, f = z + 1 := ⟨f - 1, by omega⟩
      rw [fX12_odds_30, fX13_odds_35, if_neg (nI_ge (by omega) (by omega)), if_neg (nI_ge (by omega) (by omega))]
      obtain ⟨X2, a1, a2, a3⟩ := x_copySt (o := 47) (o1 := 29) (X := X1) (Or.inl (by omega))
      have hRs : rSt 29 X1 (Y.1 2) P N := rSt_fr (fun k a b => hx.1 k (by omega)) h.rs
      have hR2 := a3 _ P N hP hN hRs
      obtain ⟨X3, b1, b2, b3⟩ := x_drawDays (x := x + nI k) (K := 20) (by omega) (by omega) h.ld h.st (a2.ld (by omega) (hx.ld (by omega) h.rl)) hR2
      have b1 : fX9_drawDays 47 (20 : Int32) (x + nI k) X2 = _ := b1
      rw [a1]
      simp only [pb_bs]
      rw [b1]
      simp only [pb_bs]
      have e1 := m_draws (M := mS Yt s (Y.1 2)) (x := x + nI k) (K := 20) (by omega) (by rw [mS_2]; exact h.ld) (by rw [mS_2]; exact h.st)
      have e1 : fX13_draws (20 : Int32) (x + nI k) (mS Yt s (Y.1 2)) = _ := e1
      rw [e1, mS_2]
      simp only [pb_bs]
      generalize hz : sDraws P N 20 (x + nI k, Y.1 2) = z at b3 ⊢
      have zW : wSt z.2.2 P N := by rw [← hz]; exact sDraws_W 20 _ h.ld h.st
      have zL : sameL (Y.1 2) z.2.2 := by rw [← hz]; exact sDraws_L 20 _ _ sameL.rf
      have zC : sameC (Y.1 2) z.2.2 := by rw [← hz]; exact sDraws_C hP hN 20 _ _ sameC.rf
      have f1 : xFr 47 X X3 := (hx.tr a2).tr b2
      have ho : X3.1 16 r = nI w := by rw [f1.1 16 (by omega), (h.rl.2.2.2.2.2.2 r hr).2.1, ew]
      have hz33 : z.2.2 (33 + r) = nI w := by rw [zL _ (by omega), ew]
      have hh := rSt_hold b3 hr zW w (by omega) hP
      have e2 : ∀ s1 s2 : Int32, (mS (mS Yt s1 (Y.1 2)) s2 z.2.2) = mS Yt s2 z.2.2 := fun s1 s2 => by
        rw [mS, mS_S, mS_si]
      have e3 : fX13_back (mS Yt z.2.1 z.2.2) = some (mS Yt z.2.1 (Y.1 2)) := by
        rw [m_back]
        refine congrArg some (Prod.ext ?_ rfl)
        funext a j
        show (if _ then _ else _) = _
        by_cases ha : a = 2 ∧ 54 ≤ j ∧ j < 54 + 59
        · obtain ⟨rfl, j1, j2⟩ := ha
          rw [if_pos ⟨rfl, j1, j2⟩, mS_2, mS, si_row (by omega), sS_n (by omega), t8 _ (by omega), show 54 + (j - 54) = j by omega]
        · rw [if_neg ha]
          by_cases a2 : a = 2
          · subst a2
            rw [mS_2, mS_2]
            rcases (by omega : j < 54 ∨ 113 ≤ j) with hj | hj
            · exact zL j hj
            · exact zC j hj
          · by_cases a0 : a = 0
            · subst a0
              by_cases hj : j = 38
              · subst hj
                rw [mS_x, mS_x]
              · rw [mS, mS, si_nj hj, si_nj hj, sS_n a2, sS_n a2]
            · rw [mS, mS, si_row a0, si_row a0, sS_n a2, sS_n a2]
      rw [e2, mS_2, c33, nI_add, if_pos (pb_in (show 33 + r < 294 by omega) (by omega)), nI_clamp (show 33 + r < 2 ^ 31 by omega), hz33, m_has (by omega), mS_2, x_withOwner (show r < 7 by omega) (show (X3.1 (47 + 4) r = X3.1 16 r) = (sHas z.2.2 (nI w) r = true) by rw [ho]; exact hh)]
      simp only [pb_bs, fX13_odds_76, e3]
      by_cases hc : sHas z.2.2 (nI w) r = true
      · rw [hc, if_neg b_t, if_neg b_t, nI_1]
        exact ih (k + 1) f X3 _ _ (by omega) (by omega) f1
      · have hc' : sHas z.2.2 (nI w) r = false := by simpa using hc
        have e0 : many + mx_b false = many := by rw [b_f]; exact Int32.add_zero _
        rw [hc', if_pos b_f, if_pos b_f, nI_1, e0]
        exact ih (k + 1) f X3 _ _ (by omega) (by omega) f1
  obtain ⟨v, X2, s', d1, d2, d3⟩ := key K 0 mx_fu X (Yt.1 0 38) 0 (by omega) (by unfold mx_fu; omega) xFr.rf
  have es : mS Yt (Yt.1 0 38) (Y.1 2) = Yt := by
    refine Prod.ext ?_ rfl
    funext a j
    by_cases a2 : a = 2
    · subst a2; rw [mS_2, t2]
    · by_cases a0 : a = 0
      · subst a0
        by_cases hj : j = 38
        · subst hj; rw [mS_x]
        · rw [mS, si_nj hj, sS_n a2]
      · rw [mS, si_row a0, sS_n a2]
  rw [es] at d2
  rw [nI_0] at d1 d2
  rw [d1, d2]
  refine ⟨_, _, _, rfl, rfl, P, N, Inv.kp (d3.kp (by omega)) ?_ mS_2 h⟩
  have g : ∀ a, a ≠ 0 → a ≠ 2 → a ≠ 8 → (mS Yt s' (Y.1 2)).1 a = Y.1 a := fun a a0 a2 a8 => by
    rw [mS, si_row a0, sS_n a2, ← hYt, cpR_n a8, si_row a0]
  refine ⟨g 1 (by omega) (by omega) (by omega), g 7 (by omega) (by omega) (by omega), g 10 (by omega) (by omega) (by omega), g 12 (by omega) (by omega) (by omega), g 15 (by omega) (by omega) (by omega), g 16 (by omega) (by omega) (by omega), g 19 (by omega) (by omega) (by omega), g 21 (by omega) (by omega) (by omega), fun j hj => ?_, fun i _ => ?_, ?_, ?_⟩
  · rw [mS, si_nj (by omega), sS_n (by omega), ← hYt, cpR_n (by omega), si_nj (by omega)]
  · rw [← hYt]; rfl
  · rw [← hYt]; rfl
  · rw [← hYt]; rfl
/-! in how many days -/
def sDf (f b : Int32) : Int32 := if f = 0 then 0 else (f - 1) / b
def sReach (S : Nat → Int32) (r : Nat) : Int32 :=
  if S (85 + r) = 2 then sDf (sFar S (S (33 + r)).toNatClampNeg (S (99 + r)) (S (106 + r))) (S 3)
  else sDf (sFar S (S (33 + r)).toNatClampNeg (S (57 + (S (78 + r)).toNatClampNeg)) (S (64 + (S (78 + r)).toNatClampNeg))) (2 * S 3)
theorem m_daysFor {f b : Nat} {M : MM} (hf : f ≤ 1000) (hb : 1 ≤ b) (hb2 : b ≤ 1000) : fX13_daysFor (nI f) (nI b) M = some (sDf (nI f) (nI b)) := by
  rw [fX13_daysFor, if_neg (nI_ne0 (by omega) (by omega)), nI_add, c1, pk_sub (by omega), pk_div (by omega) (by omega) (by omega), sDf, fX13_greater]
  by_cases h0 : f = 0
  · subst h0
    have : (0 + b - 1) / b = 0 := Nat.div_eq_of_lt (by omega)
    rw [if_pos nI_0, this]
    rfl
  · have e : (f + b - 1) / b = (f - 1) / b + 1 := by
      rw [show f + b - 1 = (f - 1) + b by omega, Nat.add_div_right _ (by omega)]
    have hle : (f - 1) / b ≤ f - 1 := Nat.div_le_self _ _
    rw [if_neg (nI_ne0 (by omega) (by omega)), e, pk_sub (Nat.le_add_left _ _), Nat.add_sub_cancel, if_pos (nI_pos' (by omega)), c1, pk_sub (by omega), pk_div (by omega) (by omega) (by omega)]
    rfl
theorem m_reachOf {r P N : Nat} {M : MM} (hL : wLd (M.1 2) P N) (hW : wSt (M.1 2) P N) (hr : r < N) : fX13_reachOf (nI r) M = some (sReach (M.1 2) r) := by
  obtain ⟨-, hP, -, hN, -, ⟨w, w1, w2, ew⟩, -, -, hrr⟩ := hL
  obtain ⟨-, ⟨o, ho, eo⟩, -⟩ := hrr r hr
  obtain ⟨⟨q, hq, eq⟩, -, ⟨a, ha, ea⟩, ⟨b, hb, eb⟩⟩ := hW.2.2 r hr
  obtain ⟨⟨c, hc, ec⟩, ⟨d, hd, ed⟩, -⟩ := hW.2.1 q hq
  rw [fX13_reachOf, c33, c85, c99, c106, c78]
  simp only [nI_add]
  rw [pb_gd (by omega) (by omega), pb_gd (by omega) (by omega), pb_gd (by omega) (by omega), pb_gd (by omega) (by omega), pb_gd (by omega) (by omega), nI_clamp (show 33 + r < 2 ^ 31 by omega), nI_clamp (show 85 + r < 2 ^ 31 by omega), nI_clamp (show 99 + r < 2 ^ 31 by omega), nI_clamp (show 106 + r < 2 ^ 31 by omega), nI_clamp (show 78 + r < 2 ^ 31 by omega), sReach, eo, eq, ew, nI_clamp (show o < 2 ^ 31 by omega), nI_clamp (show q < 2 ^ 31 by omega), m_farBy (by omega), m_farOf (by omega) (by omega)]
  simp only [pb_bs]
  obtain ⟨f1, hf1, ef1⟩ := sFar_nI hW ho ha hb
  obtain ⟨f2, hf2, ef2⟩ := sFar_nI hW ho hc hd
  rw [ea, eb, ec, ed, ef1, ef2, c2, nI_mul, m_daysFor (by omega) w1 (by omega), m_daysFor (by omega) (by omega) (by omega)]
  simp only [pb_bs]
  split <;> rfl
theorem x_till55 {i f : Int32} {b : Nat} {X : MM} (hb : 1 ≤ b) (hb2 : b ≤ 1000) : fX9_daysTillMet_55 i X f (nI b) = some (sDf f (nI b)) := by
  rw [fX9_daysTillMet_55, sDf]
  split
  · rfl
  · have h1 : (1 : Int32) ≤ nI b := nI_le (a := 1) hb (by omega)
    rw [if_pos h1, if_neg (nI_ne0 (by omega) (by omega))]
theorem x_daysTillMet {r P N : Nat} {X : MM} {S : Nat → Int32} (hL : wLd S P N) (hW : wSt S P N) (hX : rLd X S P N) (hR : rSt 29 X S P N) (hr : r < N) : fX9_daysTillMet (nI r) X = some (sReach S r) := by
  obtain ⟨e0, hP, -, hN, -, ⟨w, w1, w2, ew⟩, -, -, hrr⟩ := id hL
  obtain ⟨-, ⟨o, ho, eo⟩, -⟩ := hrr r hr
  obtain ⟨⟨q, hq, eq⟩, -, ⟨a, ha, ea⟩, ⟨b, hb, eb⟩⟩ := hW.2.2 r hr
  obtain ⟨h5, -, h3, h4⟩ := hR.2.2.2.2 r hr
  have h5 : X.1 34 r = S (85 + r) := h5
  have h3 : S (85 + r) ≠ 2 → X.1 33 r = S (78 + r) := h3
  have h4 : S (85 + r) = 2 → X.1 33 r = -1 ∧ X.1 35 r = S (99 + r) ∧ X.1 36 r = S (106 + r) := h4
  have ho16 : X.1 16 r = nI o := by rw [(hX.2.2.2.2.2.2 r hr).2.1, eo]
  have hx0 : X.1 9 0 = nI P := hX.1.trans e0
  have hx12 : X.1 9 12 = nI w := hX.2.2.2.1.trans ew
  have hin : mx_in (nI r) 7 = true := pb_in (by omega) (by omega)
  rw [fX9_daysTillMet, fX9_ringX, fX9_ringY]
  simp only [hin, ↓reduceIte, nI_clamp (show r < 2 ^ 31 by omega), ho16, h5, hx12, x_isPerson hx0 hP, pb_bs]
  rw [sReach, eo, nI_clamp (show o < 2 ^ 31 by omega), ew, c2, nI_mul]
  by_cases h2 : S (85 + r) = 2
  · obtain ⟨k1, k2, k3⟩ := h4 h2
    have hneg : mx_in (-1 : Int32) P = false := by simp [mx_in]
    rw [k1, hneg, if_pos b_f, if_pos b_f]
    simp only [pb_bs]
    rw [k2, k3, x_farTo hR ho hP]
    simp only [pb_bs]
    have h2' : S (85 + r) = nI 2 := h2
    rw [if_pos h2', x_till55 w1 (by omega), if_pos h2']
  · rw [h3 h2, eq, pb_in hq (by omega), if_neg b_t, if_neg b_t, pb_gd (by omega) (by omega), pb_gd (by omega) (by omega), nI_clamp (show q < 2 ^ 31 by omega)]
    simp only [pb_bs]
    obtain ⟨g1, g2, -⟩ := hR.2.2.2.1 q hq
    have g1 : X.1 30 q = S (57 + q) := g1
    have g2 : X.1 31 q = S (64 + q) := g2
    rw [g1, g2, x_farTo hR ho hP]
    simp only [pb_bs]
    have h2' : ¬ S (85 + r) = nI 2 := h2
    rw [if_neg h2', x_till55 (by omega) (by omega), if_neg h2']
theorem q_reach {X Y : MM} {P N : Nat} {i : Int32} (h : Inv X Y P N) : RO (fX12_reach i X) X (fX13_reach i Y) := by
  have hP := h.p7
  have hN := h.n7
  rw [fX12_reach, fX13_reach, x_isRing h.x1 hN, m_isRing (th2.trans h.y1) hN]
  simp only [pb_bs]
  rcases in_cases i N (by omega) with hr | ⟨r, hr, rfl⟩
  · rw [hr, if_pos b_f, if_pos b_f]; exact ⟨_, _, rfl, rfl, P, N, h.th⟩
  rw [pb_in hr (by omega), if_neg b_t, if_neg b_t, x_daysTillMet h.ld h.st h.rl h.rs hr, m_reachOf (P := P) (N := N) (by rw [th2']; exact h.ld) (by rw [th2']; exact h.st) hr, th2']
  exact ⟨_, _, rfl, rfl, P, N, h.th⟩
theorem q_inTime {X Y : MM} {P N : Nat} (h : Inv X Y P N) : RO (fX12_inTime X) X (fX13_inTime Y) := by
  have hP := h.p7
  have hN := h.n7
  have ex : fX12_inTime X = some (pbits (fun r => decide (Y.1 2 (92 + r) = 0) && !decide (Y.1 2 (47 + r) < Y.1 2 54 + sReach (Y.1 2) r)) N) := by
    refine loop_bits (F := fX12_inTime_4 X) (by omega) (fun n acc => ?_) (fun n acc k hk => ?_)
    · rw [fX12_inTime_4, h.x1, if_pos (nI_le (Nat.le_refl N) (by omega))]
    · have g := (h.rs.2.2.2.2 k hk).2.1
      have g : X.1 37 k = Y.1 2 (92 + k) := g
      have gd : X.1 18 k = Y.1 2 (47 + k) := (h.rl.2.2.2.2.2.2 k hk).2.2.2
      rw [fX12_inTime_4, h.x1, if_neg (nI_ge hk (by omega)), x_daysTillMet h.ld h.st h.rl h.rs hk]
      simp only [pb_in (show k < 7 by omega) (show 7 ≤ 1000000 by omega), ↓reduceIte, nI_clamp (show k < 2 ^ 31 by omega), g, gd, h.rs.1, pb_bs, nI_1]
      by_cases h1 : Y.1 2 (92 + k) = 0 <;> by_cases h2 : Y.1 2 (47 + k) < Y.1 2 54 + sReach (Y.1 2) k <;> simp [h1, h2]
  have ey : fX13_inTime Y = some (pbits (fun r => decide (Y.1 2 (92 + r) = 0) && !decide (Y.1 2 (47 + r) < Y.1 2 54 + sReach (Y.1 2) r)) N, mx_si Y 0 0 (0 : Int32)) := by
    have key := (loop_all (fun n k acc => fX13_inTime_9 n acc (nI k) (mx_si Y 0 0 (0 : Int32))) N (fun k acc => if (decide (Y.1 2 (92 + k) = 0) && !decide (Y.1 2 (47 + k) < Y.1 2 54 + sReach (Y.1 2) k)) then acc ||| ((1 : Int32) <<< (nI k &&& 31)) else acc) (fun acc => some (acc, mx_si Y 0 0 (0 : Int32))) (fun _ _ => True) 0 (by omega) trivial (fun n acc _ => by
      show fX13_inTime_9 (n + 1) acc (nI N) _ = _
      rw [fX13_inTime_9, th2, h.y1, if_pos (nI_le (Nat.le_refl N) (by omega))]) (fun n k acc hk _ => ⟨by
      show fX13_inTime_9 (n + 1) acc (nI k) _ = fX13_inTime_9 n _ (nI (k + 1)) _
      rw [fX13_inTime_9, th2, h.y1, if_neg (nI_ge hk (by omega)), m_reachOf (P := P) (N := N) (by rw [th2']; exact h.ld) (by rw [th2']; exact h.st) hk, c92, c47]
      simp only [nI_add, nI_1, pb_bs, pb_or0]
      rw [pb_gd (by omega) (by omega), pb_gd (by omega) (by omega), nI_clamp (by omega), nI_clamp (by omega), th2, th2, th2, th2']
      by_cases h1 : Y.1 2 (92 + k) = 0 <;> by_cases h2 : Y.1 2 (47 + k) < Y.1 2 54 + sReach (Y.1 2) k <;> simp [h1, h2], trivial⟩)).1
    exact key
  exact ⟨_, _, ex, ey, P, N, h.th⟩
