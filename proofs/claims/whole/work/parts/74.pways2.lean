/-! ways: the reference's tables -/
theorem c1024 : (1024 : Int32) = nI 1024 := rfl
def stA (S : Nat → Int32) (r s q : Nat) (F : Nat → Int32) : Nat → Int32 := if okF S r s q then upd F (128 * (r + 1) + (s ||| 2 ^ q)) (F (128 * (r + 1) + (s ||| 2 ^ q)) + F (128 * r + s)) else F
def stO (S : Nat → Int32) (r s q : Nat) (F : Nat → Int32) : Nat → Int32 := if okF S r s q then upd F (128 * r + s) (F (128 * r + s) + F (128 * (r + 1) + (s ||| 2 ^ q))) else F
theorem m_okF {P N r s q : Nat} {Y : MM} (hr : r < 7) (hq : q < 7) (hs : s < 128) {α : Type} {a b : Option α} : ((fX13_bitOf (nI s) (nI q) Y).bind fun x => if mx_b x = 0 then (fX13_isFit (nI r) (nI q) Y).bind fun y => if mx_b y = 0 then a else b else a) = if okF (Y.1 2) r s q then b else a := by
  rw [m_bitOf hs hq, m_isFit hr hq]
  simp only [pb_bs]
  unfold okF
  cases s.testBit q <;> cases sFit (Y.1 2) r q <;> rfl
theorem m_76 {P N r s : Nat} {Y : MM} {S : Nat → Int32} {i1 : Int32} {k66 : Int32 → Int32 → MM → Option MM} (hS : Y.1 2 = S) (hL : wLd S P N) (hr : r < N) (hs : s < 128) : ∀ c q n F, q + c = P → c < n → fX13_laysWays_76 i1 (nI r) k66 n (nI s) (nI q) (sR 13 Y F) = k66 (nI r) (nI (s + 1)) (sR 13 Y (pfor (stA S r s) q c F)) := by
  have hP := hL.2.1
  have hN := hL.2.2.2.1
  intro c
  induction c with
  | zero =>
    intro q n F hq hn
    obtain ⟨n, rfl⟩ : ∃ z, n = z + 1 := ⟨n - 1, by omega⟩
    rw [fX13_laysWays_76, sR_n (by omega), hS, hL.1, if_pos (nI_le (by omega) (by omega)), nI_1]
    rfl
  | succ c ih =>
    intro q n F hq hn
    obtain ⟨n, rfl⟩ : ∃ z, n = z + 1 := ⟨n - 1, by omega⟩
    obtain ⟨o1, o2⟩ := bit_or s hs q (by omega)
    have h2 : (sR 13 Y F).1 2 = S := by rw [sR_n (by omega), hS]
    rw [fX13_laysWays_76, h2, hL.1, if_neg (nI_ge (by omega) (by omega)), m_okF (P := P) (N := N) (by omega) (by omega) hs, h2, o1, c128, nI_1, nI_mul, nI_mul, nI_add, nI_add, pb_gd (show 128 * (r + 1) + (s ||| 2 ^ q) < 1024 by omega) (by omega), pb_gd (show 128 * r + s < 1024 by omega) (by omega), pb_gd (show 128 * (r + 1) + (s ||| 2 ^ q) < 1024 by omega) (by omega), nI_clamp (by omega), nI_clamp (by omega), sR_c, sR_i, nI_1, pfor]
    unfold stA
    cases okF S r s q
    · exact ih (q + 1) n _ (by omega) (by omega)
    · exact ih (q + 1) n _ (by omega) (by omega)
theorem m_178 {P N r s : Nat} {Y : MM} {S : Nat → Int32} {k168 : Int32 → Int32 → MM → Option MM} (hS : Y.1 2 = S) (hL : wLd S P N) (hr : r < N) (hs : s < 128) : ∀ c q n F, q + c = P → c < n → fX13_laysWays_178 (nI r) k168 n (nI s) (nI q) (sR 14 Y F) = k168 (nI r) (nI (s + 1)) (sR 14 Y (pfor (stO S r s) q c F)) := by
  have hP := hL.2.1
  have hN := hL.2.2.2.1
  intro c
  induction c with
  | zero =>
    intro q n F hq hn
    obtain ⟨n, rfl⟩ : ∃ z, n = z + 1 := ⟨n - 1, by omega⟩
    rw [fX13_laysWays_178, sR_n (by omega), hS, hL.1, if_pos (nI_le (by omega) (by omega)), nI_1]
    rfl
  | succ c ih =>
    intro q n F hq hn
    obtain ⟨n, rfl⟩ : ∃ z, n = z + 1 := ⟨n - 1, by omega⟩
    obtain ⟨o1, o2⟩ := bit_or s hs q (by omega)
    have h2 : (sR 14 Y F).1 2 = S := by rw [sR_n (by omega), hS]
    rw [fX13_laysWays_178, h2, hL.1, if_neg (nI_ge (by omega) (by omega)), m_okF (P := P) (N := N) (by omega) (by omega) hs, h2, o1, c128, nI_1, nI_mul, nI_mul, nI_add, nI_add, pb_gd (show 128 * r + s < 1024 by omega) (by omega), pb_gd (show 128 * (r + 1) + (s ||| 2 ^ q) < 1024 by omega) (by omega), pb_gd (show 128 * r + s < 1024 by omega) (by omega), nI_clamp (by omega), nI_clamp (by omega), sR_c, sR_i, nI_1, pfor]
    unfold stO
    cases okF S r s q
    · exact ih (q + 1) n _ (by omega) (by omega)
    · exact ih (q + 1) n _ (by omega) (by omega)
theorem m_66 {P N r : Nat} {Y : MM} {S : Nat → Int32} {i1 : Int32} {k59 : Int32 → MM → Option MM} (hS : Y.1 2 = S) (hL : wLd S P N) (hr : r < N) : ∀ c s n F, s + c = 128 → c < n → fX13_laysWays_66 i1 k59 n (nI r) (nI s) (sR 13 Y F) = k59 (nI (r + 1)) (sR 13 Y (pfor (fun s F => pfor (stA S r s) 0 P F) s c F)) := by
  intro c
  induction c with
  | zero =>
    intro s n F hs hn
    obtain ⟨n, rfl⟩ : ∃ z, n = z + 1 := ⟨n - 1, by omega⟩
    rw [fX13_laysWays_66, c128, if_pos (nI_le (by omega) (by omega)), nI_1]
    rfl
  | succ c ih =>
    intro s n F hs hn
    obtain ⟨n, rfl⟩ : ∃ z, n = z + 1 := ⟨n - 1, by omega⟩
    have h := m_76 (Y := Y) (i1 := i1) (k66 := fX13_laysWays_66 i1 k59 n) hS hL hr (show s < 128 by omega) P 0 mx_fu F (by omega) (by have := hL.2.1; unfold mx_fu; omega)
    rw [nI_0] at h
    rw [fX13_laysWays_66, c128, if_neg (nI_ge (by omega) (by omega)), h, pfor]
    exact ih (s + 1) n _ (by omega) (by omega)
theorem m_168 {P N r : Nat} {Y : MM} {S : Nat → Int32} {k162 : Int32 → MM → Option MM} (hS : Y.1 2 = S) (hL : wLd S P N) (hr : r < N) : ∀ c s n F, s + c = 128 → c < n → fX13_laysWays_168 k162 n (nI r) (nI s) (sR 14 Y F) = k162 (nI r + (-1 : Int32)) (sR 14 Y (pfor (fun s F => pfor (stO S r s) 0 P F) s c F)) := by
  intro c
  induction c with
  | zero =>
    intro s n F hs hn
    obtain ⟨n, rfl⟩ : ∃ z, n = z + 1 := ⟨n - 1, by omega⟩
    rw [fX13_laysWays_168, c128, if_pos (nI_le (by omega) (by omega))]
    rfl
  | succ c ih =>
    intro s n F hs hn
    obtain ⟨n, rfl⟩ : ∃ z, n = z + 1 := ⟨n - 1, by omega⟩
    have h := m_178 (Y := Y) (k168 := fX13_laysWays_168 k162 n) hS hL hr (show s < 128 by omega) P 0 mx_fu F (by omega) (by have := hL.2.1; unfold mx_fu; omega)
    rw [nI_0] at h
    rw [fX13_laysWays_168, c128, if_neg (nI_ge (by omega) (by omega)), h, pfor]
    exact ih (s + 1) n _ (by omega) (by omega)
/-! what they hold -/
def rsum (F : Nat → Int32) (r : Nat) (w : Nat → Int32) : Int32 := sm (fun t => F (128 * r + t) * w t) 128
theorem stA_inv {S : Nat → Int32} {P r s : Nat} {w : Nat → Int32} {K : Int32} (hP : P ≤ 7) (hs : s < 128) : ∀ c q F a, q + c ≤ P → rsum F (r + 1) w = K + F (128 * r + s) * a → rsum (pfor (stA S r s) q c F) (r + 1) w = K + F (128 * r + s) * pfor (bst1 S r w s) q c a ∧ ∀ t, (t < 128 * (r + 1) ∨ 128 * (r + 2) ≤ t) → pfor (stA S r s) q c F t = F t := by
  intro c
  induction c with
  | zero => intro q F a _ h; exact ⟨h, fun _ _ => rfl⟩
  | succ c ih =>
    intro q F a hq h
    rw [pfor, pfor]
    rcases Bool.eq_false_or_eq_true (okF S r s q) with e | e
    · have es : stA S r s q F = upd F (128 * (r + 1) + (s ||| 2 ^ q)) (F (128 * (r + 1) + (s ||| 2 ^ q)) + F (128 * r + s)) := by unfold stA; rw [e, if_pos rfl]
      have eb : bst1 S r w s q a = a + w (s ||| 2 ^ q) := by unfold bst1; rw [e, if_pos rfl]
      obtain ⟨o1, o2⟩ := bit_or s hs q (by omega)
      rw [es, eb]
      have hu : upd F (128 * (r + 1) + (s ||| 2 ^ q)) (F (128 * (r + 1) + (s ||| 2 ^ q)) + F (128 * r + s)) (128 * r + s) = F (128 * r + s) := pk_un (by omega)
      obtain ⟨i1, i2⟩ := ih (q + 1) (upd F (128 * (r + 1) + (s ||| 2 ^ q)) (F (128 * (r + 1) + (s ||| 2 ^ q)) + F (128 * r + s))) (a + w (s ||| 2 ^ q)) (by omega) (by
        unfold rsum at h ⊢
        have hc : sm (fun t => upd F (128 * (r + 1) + (s ||| 2 ^ q)) (F (128 * (r + 1) + (s ||| 2 ^ q)) + F (128 * r + s)) (128 * (r + 1) + t) * w t) 128 = sm (fun t => upd (fun t => F (128 * (r + 1) + t)) (s ||| 2 ^ q) (F (128 * (r + 1) + (s ||| 2 ^ q)) + F (128 * r + s)) t * w t) 128 := sm_congr 128 (fun t ht => by
          congr 1
          by_cases e2 : t = s ||| 2 ^ q
          · subst e2; rw [pk_us, pk_us]
          · rw [pk_un (by omega), pk_un e2])
        rw [hc, sm_upd (F := fun t => F (128 * (r + 1) + t)) 128 o2, h, hu, Int32.mul_add, Int32.add_assoc])
      rw [hu] at i1
      exact ⟨i1, fun t ht => by rw [i2 t ht, pk_un (by omega)]⟩
    · have es : stA S r s q F = F := by unfold stA; rw [e]; rfl
      have eb : bst1 S r w s q a = a := by unfold bst1; rw [e]; rfl
      rw [es, eb]
      exact ih (q + 1) F a (by omega) h
theorem rowA_inv {S : Nat → Int32} {P r : Nat} {w F0 : Nat → Int32} (hP : P ≤ 7) : ∀ c s F, s + c = 128 → (∀ t, (t < 128 * (r + 1) ∨ 128 * (r + 2) ≤ t) → F t = F0 t) → rsum F (r + 1) w = sm (fun t => F0 (128 * r + t) * opB S P r w t) s → rsum (pfor (fun s F => pfor (stA S r s) 0 P F) s c F) (r + 1) w = rsum F0 r (opB S P r w) ∧ ∀ t, (t < 128 * (r + 1) ∨ 128 * (r + 2) ≤ t) → pfor (fun s F => pfor (stA S r s) 0 P F) s c F t = F0 t := by
  intro c
  induction c with
  | zero =>
    intro s F hs h1 h2
    have : s = 128 := by omega
    subst this
    exact ⟨h2, h1⟩
  | succ c ih =>
    intro s F hs h1 h2
    rw [pfor]
    have eF : F (128 * r + s) = F0 (128 * r + s) := h1 _ (by omega)
    have key := stA_inv (S := S) (P := P) (r := r) (s := s) (w := w) (K := rsum F (r + 1) w) hP (by omega) P 0 F 0 (by omega) (by rw [Int32.mul_zero, Int32.add_zero])
    refine ih (s + 1) _ (by omega) (fun t ht => by rw [key.2 t ht]; exact h1 t ht) ?_
    rw [key.1, sm_succ, ← h2, eF]
    rfl
def tabA (S : Nat → Int32) (P r : Nat) (F : Nat → Int32) : Prop := (∀ k, k ≤ r → ∀ w, rsum F k w = opBs S P (rg 7 k 0) w 0) ∧ ∀ t, 128 * (r + 1) ≤ t → t < 1024 → F t = 0
theorem rg_snoc : ∀ c r, r + c < 7 → rg 7 (c + 1) r = rg 7 c r ++ [r + c] := by
  intro c
  induction c with
  | zero => intro r h; rw [rg, rg, if_neg (by omega)]; rfl
  | succ c ih =>
    intro r h
    rw [rg, if_neg (by omega), ih (r + 1) (by omega), rg, if_neg (by omega), show r + 1 + c = r + (c + 1) by omega]
    rfl
theorem m_59 {P N : Nat} {Y : MM} {S : Nat → Int32} (hS : Y.1 2 = S) (hL : wLd S P N) : ∀ c r n F, r + c = N → c < n → tabA S P r F → ∃ F', fX13_laysWays_59 (nI N) n (nI r) (sR 13 Y F) = fX13_laysWays_162 mx_fu (nI N - (1 : Int32)) (sR 13 Y F') ∧ tabA S P N F' := by
  have hP := hL.2.1
  have hN := hL.2.2.2.1
  intro c
  induction c with
  | zero =>
    intro r n F hr hn h
    obtain ⟨n, rfl⟩ : ∃ z, n = z + 1 := ⟨n - 1, by omega⟩
    have : r = N := by omega
    subst this
    exact ⟨F, by rw [fX13_laysWays_59, if_pos (nI_le (by omega) (by omega))], h⟩
  | succ c ih =>
    intro r n F hr hn h
    obtain ⟨n, rfl⟩ : ∃ z, n = z + 1 := ⟨n - 1, by omega⟩
    have h66 := m_66 (Y := Y) (i1 := nI N) (k59 := fX13_laysWays_59 (nI N) n) hS hL (show r < N by omega) 128 0 mx_fu F (by omega) (by unfold mx_fu; omega)
    rw [nI_0] at h66
    rw [fX13_laysWays_59, if_neg (nI_ge (by omega) (by omega)), h66]
    have ri := fun w => rowA_inv (S := S) (P := P) (r := r) (w := w) (F0 := F) hP 128 0 F (by omega) (fun _ _ => rfl) (by
      show rsum F (r + 1) w = 0
      unfold rsum
      rw [sm_congr (g := fun _ => 0) 128 (fun t ht => ?_), sm_zero]
      rw [h.2 _ (by omega) (by omega), Int32.zero_mul])
    refine ih (r + 1) n _ (by omega) (by omega) ⟨fun k hk w => ?_, fun t t1 t2 => ?_⟩
    · by_cases e : k = r + 1
      · subst e
        rw [(ri w).1, h.1 r (by omega), rg_snoc r 0 (by omega), opBs_app, Nat.zero_add]
        rfl
      · rw [← h.1 k (by omega) w]
        unfold rsum
        refine sm_congr 128 (fun t ht => ?_)
        rw [(ri w).2 _ (by omega)]
    · rw [(ri (fun _ => 0)).2 t (by omega)]
      exact h.2 t (by omega) t2
theorem stO_inv {S : Nat → Int32} {P r s : Nat} (hP : P ≤ 7) (hs : s < 128) : ∀ c q F, q + c ≤ P → pfor (stO S r s) q c F (128 * r + s) = pfor (bst1 S r (fun t => F (128 * (r + 1) + t)) s) q c (F (128 * r + s)) ∧ ∀ t, t ≠ 128 * r + s → pfor (stO S r s) q c F t = F t := by
  intro c
  induction c with
  | zero => intro q F _; exact ⟨rfl, fun _ _ => rfl⟩
  | succ c ih =>
    intro q F hq
    rw [pfor, pfor]
    rcases Bool.eq_false_or_eq_true (okF S r s q) with e | e
    · have es : stO S r s q F = upd F (128 * r + s) (F (128 * r + s) + F (128 * (r + 1) + (s ||| 2 ^ q))) := by unfold stO; rw [e, if_pos rfl]
      have eb : bst1 S r (fun t => F (128 * (r + 1) + t)) s q (F (128 * r + s)) = F (128 * r + s) + F (128 * (r + 1) + (s ||| 2 ^ q)) := by unfold bst1; rw [e, if_pos rfl]
      rw [es, eb]
      obtain ⟨i1, i2⟩ := ih (q + 1) (upd F (128 * r + s) (F (128 * r + s) + F (128 * (r + 1) + (s ||| 2 ^ q)))) (by omega)
      refine ⟨?_, fun t ht => by rw [i2 t ht, pk_un ht]⟩
      rw [i1, pk_us]
      have : (fun t => upd F (128 * r + s) (F (128 * r + s) + F (128 * (r + 1) + (s ||| 2 ^ q))) (128 * (r + 1) + t)) = fun t => F (128 * (r + 1) + t) := by
        funext t; exact pk_un (by omega)
      rw [this]
    · have es : stO S r s q F = F := by unfold stO; rw [e]; rfl
      have eb : bst1 S r (fun t => F (128 * (r + 1) + t)) s q (F (128 * r + s)) = F (128 * r + s) := by unfold bst1; rw [e]; rfl
      rw [es, eb]
      exact ih (q + 1) F (by omega)
theorem rowO_inv {S : Nat → Int32} {P r : Nat} {F0 : Nat → Int32} (hP : P ≤ 7) (hz : ∀ t, t < 128 → F0 (128 * r + t) = 0) : ∀ c s F, s + c = 128 → (∀ t, (t < 128 * r ∨ 128 * r + s ≤ t) → F t = F0 t) → (∀ t, t < s → F (128 * r + t) = opB S P r (fun t => F0 (128 * (r + 1) + t)) t) → (∀ t, t < 128 → pfor (fun s F => pfor (stO S r s) 0 P F) s c F (128 * r + t) = opB S P r (fun t => F0 (128 * (r + 1) + t)) t) ∧ ∀ t, (t < 128 * r ∨ 128 * (r + 1) ≤ t) → pfor (fun s F => pfor (stO S r s) 0 P F) s c F t = F0 t := by
  intro c
  induction c with
  | zero =>
    intro s F hs h1 h2
    exact ⟨fun t ht => h2 t (by omega), fun t ht => h1 t (by omega)⟩
  | succ c ih =>
    intro s F hs h1 h2
    rw [pfor]
    obtain ⟨k1, k2⟩ := stO_inv (S := S) (P := P) (r := r) (s := s) hP (by omega) P 0 F (by omega)
    have ef : (fun t => F (128 * (r + 1) + t)) = fun t => F0 (128 * (r + 1) + t) := by
      funext t; exact h1 _ (by omega)
    refine ih (s + 1) _ (by omega) (fun t ht => by rw [k2 t (by omega)]; exact h1 t (by omega)) (fun t ht => ?_)
    by_cases e : t = s
    · subst e
      rw [k1, h1 (128 * r + t) (by omega), hz t (by omega), ef]
      rfl
    · rw [k2 _ (by omega)]; exact h2 t (by omega)
def tabO (S : Nat → Int32) (P N r : Nat) (F : Nat → Int32) : Prop := (∀ k, r ≤ k → k ≤ N → ∀ t, t < 128 → F (128 * k + t) = opBs S P (rg 7 (N - k) k) (fun _ => 1) t) ∧ ∀ t, t < 128 * r → F t = 0
theorem m_162 {P N : Nat} {Y : MM} {S : Nat → Int32} (hS : Y.1 2 = S) (hL : wLd S P N) : ∀ r n F, r ≤ N → r < n → tabO S P N r F → ∃ F', fX13_laysWays_162 n (nI r + (-1 : Int32)) (sR 14 Y F) = some (sR 14 Y F') ∧ tabO S P N 0 F' := by
  have hP := hL.2.1
  have hN := hL.2.2.2.1
  intro r
  induction r with
  | zero =>
    intro n F _ hn h
    obtain ⟨n, rfl⟩ : ∃ z, n = z + 1 := ⟨n - 1, by omega⟩
    exact ⟨F, by rw [fX13_laysWays_162, if_pos (by decide)], h⟩
  | succ r ih =>
    intro n F hr hn h
    obtain ⟨n, rfl⟩ : ∃ z, n = z + 1 := ⟨n - 1, by omega⟩
    have h168 := m_168 (Y := Y) (k162 := fX13_laysWays_162 n) hS hL (show r < N by omega) 128 0 mx_fu F (by omega) (by unfold mx_fu; omega)
    rw [nI_0] at h168
    rw [pk_m1, fX13_laysWays_162, if_neg (nI_pos (by omega)), h168]
    obtain ⟨i1, i2⟩ := rowO_inv (S := S) (P := P) (r := r) (F0 := F) hP (fun t ht => h.2 _ (by omega)) 128 0 F (by omega) (fun _ _ => rfl) (fun t ht => by omega)
    refine ih n _ (by omega) (by omega) ⟨fun k k1 k2 t ht => ?_, fun t ht => ?_⟩
    · by_cases e : k = r
      · subst e
        rw [i1 t ht, show N - k = (N - (k + 1)) + 1 by omega, rg, if_neg (by omega)]
        exact opB_congr hP (fun u hu => h.1 (k + 1) (by omega) (by omega) u hu) t ht
      · rw [i2 _ (by omega)]; exact h.1 k (by omega) k2 t ht
    · rw [i2 t (by omega)]; exact h.2 t (by omega)
theorem nIdiv {a : Nat} (h : a < 1024) : nI a / (128 : Int32) = nI (a / 128) := pk_div (d := 128) (by omega) (by omega) (by omega)
theorem sR_comm {c d : Nat} {M : MM} {F G : Nat → Int32} (h : c ≠ d) : sR c (sR d M G) F = sR d (sR c M F) G := by
  refine Prod.ext ?_ rfl
  funext a b
  simp only [sR]
  by_cases e1 : a = c
  · have : ¬ a = d := by omega
    simp [e1, h]
  · simp [e1]
theorem m_9 {N : Nat} {Y : MM} (hN : N ≤ 7) : ∀ c i n F G, i + c = 1024 → c < n → (∀ t, t < i → F t = if t = 0 then 1 else 0) → (∀ t, t < i → G t = if t / 128 = N then 1 else 0) → ∃ F' G', fX13_laysWays_9 (nI N) n (nI i) (sR 14 (sR 13 Y F) G) = fX13_laysWays_59 (nI N) mx_fu 0 (sR 14 (sR 13 Y F') G') ∧ (∀ t, t < 1024 → F' t = if t = 0 then 1 else 0) ∧ ∀ t, t < 1024 → G' t = if t / 128 = N then 1 else 0 := by
  intro c
  induction c with
  | zero =>
    intro i n F G hi hn h1 h2
    obtain ⟨n, rfl⟩ : ∃ z, n = z + 1 := ⟨n - 1, by omega⟩
    exact ⟨F, G, by rw [fX13_laysWays_9, c1024, if_pos (nI_le (by omega) (by omega))], fun t ht => h1 t (by omega), fun t ht => h2 t (by omega)⟩
  | succ c ih =>
    intro i n F G hi hn h1 h2
    obtain ⟨n, rfl⟩ : ∃ z, n = z + 1 := ⟨n - 1, by omega⟩
    have st : ∀ b, fX13_laysWays_30 (nI N) (fX13_laysWays_9 (nI N) n) (nI i) (nI i) b (sR 14 (sR 13 Y F) G) = fX13_laysWays_9 (nI N) n (nI (i + 1)) (sR 14 (sR 13 Y (upd F i (mx_b b))) (upd G i (if i / 128 = N then 1 else 0))) := by
      intro b
      rw [fX13_laysWays_30, pb_gd (by omega) (by omega), fX13_laysWays_50, fX13_laysWays_50, pb_gd (by omega) (by omega), pb_gd (by omega) (by omega), nI_clamp (by omega), nIdiv (by omega), sR_comm (show 14 ≠ 13 by omega), sR_i, sR_comm (show 13 ≠ 14 by omega), sR_i, sR_i, nI_1]
      by_cases e : i / 128 = N
      · rw [if_pos (by rw [e]), if_pos e]; rfl
      · rw [if_neg (fun x => e ((nI_eq (by omega) (by omega)).mp x)), if_neg e]; rfl
    rw [fX13_laysWays_9, c1024, if_neg (nI_ge (by omega) (by omega)), st, st]
    have g2 : ∀ t, t < i + 1 → upd G i (if i / 128 = N then 1 else 0) t = if t / 128 = N then 1 else 0 := fun t ht => by
      by_cases e : t = i
      · subst e; rw [pk_us]
      · rw [pk_un e]; exact h2 t (by omega)
    by_cases e : i = 0
    · subst e
      rw [if_pos (show nI 0 = 0 from rfl)]
      refine ih 1 n _ _ (by omega) (by omega) (fun t ht => ?_) g2
      have : t = 0 := by omega
      subst this
      rw [pk_us]; rfl
    · rw [if_neg (nI_ne0 (by omega) (by omega))]
      refine ih (i + 1) n _ _ (by omega) (by omega) (fun t ht => ?_) g2
      by_cases e2 : t = i
      · subst e2; rw [pk_us, if_neg e]; rfl
      · rw [pk_un e2]; exact h1 t (by omega)
theorem m_lays {P N : Nat} {Y : MM} (hL : wLd (Y.1 2) P N) : ∃ F G, fX13_laysWays Y = some (sR 14 (sR 13 Y F) G) ∧ tabA (Y.1 2) P N F ∧ tabO (Y.1 2) P N 0 G := by
  have hP := hL.2.1
  have hN := hL.2.2.2.1
  obtain ⟨F0, G0, a1, a2, a3⟩ := m_9 (Y := Y) hN 1024 0 mx_fu (Y.1 13) (Y.1 14) (by omega) (by unfold mx_fu; omega) (fun t ht => by omega) (fun t ht => by omega)
  have es : sR 14 (sR 13 Y (Y.1 13)) (Y.1 14) = Y := by rw [sR_self, sR_self]
  rw [es, nI_0] at a1
  obtain ⟨F, b1, b2⟩ := m_59 (Y := sR 14 Y G0) (S := Y.1 2) (sR_n (by omega)) hL N 0 mx_fu F0 (by omega) (by unfold mx_fu; omega) ⟨fun k hk w => by
      have : k = 0 := by omega
      subst this
      show rsum F0 0 w = w 0
      unfold rsum
      rw [sm_congr (g := fun t => if t = 0 then w 0 else 0) 128 (fun t ht => ?_), sm_one 128 (by omega)]
      rw [Nat.mul_zero, Nat.zero_add, a2 t (by omega)]
      by_cases e : t = 0
      · subst e; rw [if_pos rfl, if_pos rfl, Int32.one_mul]
      · rw [if_neg e, if_neg e, Int32.zero_mul], fun t t1 t2 => by rw [a2 t t2, if_neg (by omega)]⟩
  rw [sR_comm (show 13 ≠ 14 by omega), nI_0] at b1
  have em : nI N - (1 : Int32) = nI N + (-1 : Int32) := by rw [Int32.sub_eq_add_neg]
  obtain ⟨G, d1, d2⟩ := m_162 (Y := sR 13 Y F) (S := Y.1 2) (sR_n (by omega)) hL N mx_fu G0 (Nat.le_refl _) (by unfold mx_fu; omega) ⟨fun k k1 k2 t ht => by
      have : k = N := by omega
      subst this
      rw [a3 _ (by omega), if_pos (by omega), Nat.sub_self]
      rfl, fun t ht => by rw [a3 t (by omega), if_neg (by omega)]⟩
  rw [sR_comm (show 13 ≠ 14 by omega), em, d1] at b1
  refine ⟨F, G, ?_, b2, d2⟩
  rw [fX13_laysWays, hL.2.2.1, a1, b1]
theorem q_ways {X Y : MM} {P N : Nat} (h : Inv X Y P N) : RW (fX12_ways X) (fX13_ways Y) := by
  obtain ⟨F0, a⟩ := x_ways h.ld h.rl
  obtain ⟨F, G, b, -, c⟩ := m_lays (Y := mx_si Y 0 0 (0 : Int32)) (by rw [th2']; exact h.ld)
  rw [fX12_ways, fX13_ways, a, b]
  simp only [pb_bs]
  have e : (sR 14 (sR 13 (mx_si Y 0 0 (0 : Int32)) F) G).1 14 0 = opBs (Y.1 2) P (rg 7 N 0) (fun _ => 1) 0 := by
    rw [sR_c]
    have := c.1 0 (by omega) (by omega) 0 (by omega)
    rw [Nat.mul_zero, Nat.zero_add, Nat.sub_zero, th2'] at this
    exact this
  rw [e]
  refine ⟨_, _, _, rfl, rfl, P, N, Inv.kp (X := X) (Y := Y) ?_ ?_ ?_ h⟩
  · exact ⟨by rw [sR_n (by omega)], fun k hk => sR_n (by omega), by rw [sR_n (by omega)], fun j _ => by rw [sR_n (by omega)], fun _ _ => rfl, fun _ _ => rfl, fun hw i hi => hw i hi⟩
  · have fy : ∀ k, k ≠ 0 → k ≠ 13 → k ≠ 14 → (sR 14 (sR 13 (mx_si Y 0 0 (0 : Int32)) F) G).1 k = Y.1 k := fun k k0 k1 k2 => by rw [sR_n k2, sR_n k1, si_row k0]
    exact ⟨fy 1 (by omega) (by omega) (by omega), fy 7 (by omega) (by omega) (by omega), fy 10 (by omega) (by omega) (by omega), fy 12 (by omega) (by omega) (by omega), fy 15 (by omega) (by omega) (by omega), fy 16 (by omega) (by omega) (by omega), fy 19 (by omega) (by omega) (by omega), fy 21 (by omega) (by omega) (by omega), fun j hj => by rw [sR_n (by omega), sR_n (by omega), si_nj (by omega)], fun _ _ => rfl, rfl, rfl⟩
  · rw [sR_n (by omega), sR_n (by omega), th2']
