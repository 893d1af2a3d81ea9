/-! tours: all orders visited, the best is the table's -/
def els (left : Nat) : Nat → Nat → List Nat
  | 0, _ => []
  | c + 1, k => if left.testBit k then k :: els left c (k + 1) else els left c (k + 1)
theorem els_len : ∀ P, P < 8 → ∀ m, m < 128 → m < 2 ^ P → (els m P 0).length = popc m := by decide +kernel
theorem els_app {left : Nat} : ∀ c d k, els left (c + d) k = els left c k ++ els left d (k + c) := by
  intro c
  induction c with
  | zero => intro d k; rw [Nat.zero_add, Nat.add_zero]; rfl
  | succ c ih =>
    intro d k
    rw [show c + 1 + d = (c + d) + 1 by omega, els, els, ih d (k + 1), show k + 1 + c = k + (c + 1) by omega]
    split <;> rfl
theorem els_mem {left : Nat} : ∀ c k x, x ∈ els left c k → k ≤ x ∧ x < k + c := by
  intro c
  induction c with
  | zero => intro k x h; rw [els] at h; cases h
  | succ c ih =>
    intro k x h
    rw [els] at h
    split at h
    · rcases List.mem_cons.mp h with e | e
      · subst e; omega
      · have := ih (k + 1) x e; omega
    · have := ih (k + 1) x h; omega
theorem els_pw {left : Nat} : ∀ c k, (els left c k).Pairwise (· < ·) := by
  intro c
  induction c with
  | zero => intro k; exact List.Pairwise.nil
  | succ c ih =>
    intro k
    rw [els]
    split
    · exact List.pairwise_cons.mpr ⟨fun x hx => by have := els_mem c (k + 1) x hx; omega, ih (k + 1)⟩
    · exact ih (k + 1)
theorem els_off {left q : Nat} : ∀ c k, (q < k ∨ k + c ≤ q) → els (left ^^^ 2 ^ q) c k = els left c k := by
  intro c
  induction c with
  | zero => intro k _; rfl
  | succ c ih =>
    intro k h
    have e : (left ^^^ 2 ^ q).testBit k = left.testBit k := by
      rw [Nat.testBit_xor, Nat.testBit_two_pow]
      have : decide (q = k) = false := by simp; omega
      rw [this, Bool.xor_false]
    rw [els, els, e, ih (k + 1) (by omega)]
theorem els_out {left q P : Nat} (hq : q < P) (hb : left.testBit q = true) : els (left ^^^ 2 ^ q) P 0 = els left q 0 ++ els left (P - (q + 1)) (q + 1) := by
  have e : (left ^^^ 2 ^ q).testBit q = false := by
    rw [Nat.testBit_xor, Nat.testBit_two_pow, hb]; simp
  have h1 := els_app (left := left ^^^ 2 ^ q) q (1 + (P - (q + 1))) 0
  rw [show q + (1 + (P - (q + 1))) = P by omega] at h1
  rw [h1, els_off q 0 (by omega), Nat.zero_add, Nat.add_comm 1, els, e]
  simp only [Bool.false_eq_true, ↓reduceIte]
  rw [els_off _ _ (by omega)]
def pcost (S : Nat → Int32) : Nat → List Nat → Nat
  | _, [] => 0
  | a, x :: l => frN S a x + pcost S x l
def vis (c : Nat) (p : List Nat) (s : Nat × List Nat) : Nat × List Nat := if c < s.1 then (c, p) else s
def VP (S : Nat → Int32) (P : Nat) : Nat → List Nat → Nat → Nat → Nat → Nat × List Nat → Nat × List Nat
  | 0, p, _, c, _, s => vis c p s
  | n + 1, p, a, c, left, s => pfor (fun q s => if left.testBit q then VP S P n (p ++ [q]) q (c + frN S a q) (left ^^^ 2 ^ q) s else s) 0 P s
theorem pfst_eq {f : Nat → Bool} {q : Nat} (h1 : f q = true) : ∀ c k, k ≤ q → q < k + c → (∀ j, k ≤ j → j < q → f j = false) → pfst f k c = q := by
  intro c
  induction c with
  | zero => intro k _ _ _; omega
  | succ c ih =>
    intro k hk hc h
    rw [pfst]
    by_cases e : k = q
    · subst e; rw [if_pos h1]
    · rw [h k (by omega) (by omega)]
      exact ih (k + 1) (by omega) (by omega) (fun j j1 j2 => h j (by omega) j2)
theorem VP_D {S : Nat → Int32} {P : Nat} : ∀ n p a c left s, s.1 ≤ 1000000 → VP S P n p a c left s = if c + Dt S P n left a < s.1 then (c + Dt S P n left a, p ++ Rt S P n left a) else s := by
  intro n
  induction n with
  | zero =>
    intro p a c left s _
    show vis c p s = if c + 0 < s.1 then (c + 0, p ++ []) else s
    rw [List.append_nil]
    rfl
  | succ n ih =>
    intro p a c left s hs
    have key : ∀ k, k ≤ P → pfor (fun q s => if left.testBit q then VP S P n (p ++ [q]) q (c + frN S a q) (left ^^^ 2 ^ q) s else s) 0 k s = (if c + pfor (dst S (fun q => Dt S P n (left ^^^ 2 ^ q) q) left a) 0 k 1000000 < s.1 then (c + pfor (dst S (fun q => Dt S P n (left ^^^ 2 ^ q) q) left a) 0 k 1000000, p ++ (pfst (fun q => left.testBit q && decide (frN S a q + Dt S P n (left ^^^ 2 ^ q) q = pfor (dst S (fun q => Dt S P n (left ^^^ 2 ^ q) q) left a) 0 k 1000000)) 0 k :: Rt S P n (left ^^^ 2 ^ pfst (fun q => left.testBit q && decide (frN S a q + Dt S P n (left ^^^ 2 ^ q) q = pfor (dst S (fun q => Dt S P n (left ^^^ 2 ^ q) q) left a) 0 k 1000000)) 0 k) (pfst (fun q => left.testBit q && decide (frN S a q + Dt S P n (left ^^^ 2 ^ q) q = pfor (dst S (fun q => Dt S P n (left ^^^ 2 ^ q) q) left a) 0 k 1000000)) 0 k))) else s) := by
      intro k
      induction k with
      | zero =>
        intro _
        have : ¬ c + 1000000 < s.1 := by omega
        show s = if c + 1000000 < s.1 then _ else s
        rw [if_neg this]
      | succ k ihk =>
        intro hk
        have ihk := ihk (by omega)
        have hle := dst_le (S := S) (g := fun q => Dt S P n (left ^^^ 2 ^ q) q) (left := left) (a := a) k 0 1000000
        have hex := dst_ex (S := S) (g := fun q => Dt S P n (left ^^^ 2 ^ q) q) (left := left) (a := a) k 0 1000000
        rw [pfor_succ, ihk, pfor_succ, Nat.zero_add]
        generalize hm : pfor (dst S (fun q => Dt S P n (left ^^^ 2 ^ q) q) left a) 0 k 1000000 = m at hle hex
        have hgv : ∀ j, j < k → left.testBit j = true → m ≤ frN S a j + Dt S P n (left ^^^ 2 ^ j) j := fun j hj hb => hle.2 j (by omega) (by omega) hb
        rcases Bool.eq_false_or_eq_true (left.testBit k) with e | e
        · have ed : dst S (fun q => Dt S P n (left ^^^ 2 ^ q) q) left a k m = min m (frN S a k + Dt S P n (left ^^^ 2 ^ k) k) := by unfold dst; rw [e, if_pos rfl]
          rw [ed, e, if_pos rfl]
          -- is the new one better?
          by_cases hnew : frN S a k + Dt S P n (left ^^^ 2 ^ k) k < m
          · rw [Nat.min_eq_right (by omega)]
            have ef : pfst (fun q => left.testBit q && decide (frN S a q + Dt S P n (left ^^^ 2 ^ q) q = frN S a k + Dt S P n (left ^^^ 2 ^ k) k)) 0 (k + 1) = k := by
              refine pfst_eq (by rw [e]; simp) (k + 1) 0 (by omega) (by omega) (fun j _ hj => ?_)
              rcases Bool.eq_false_or_eq_true (left.testBit j) with e2 | e2
              · have := hgv j hj e2
                rw [e2]; simp; omega
              · rw [e2]; rfl
            rw [ef]
            by_cases h1 : c + m < s.1
            · rw [if_pos h1, ih _ _ _ _ _ (show (c + m, _).1 ≤ 1000000 from by show c + m ≤ _; omega)]
              show (if c + frN S a k + Dt S P n (left ^^^ 2 ^ k) k < c + m then _ else _) = _
              rw [if_pos (by omega), if_pos (by omega), Nat.add_assoc, List.append_assoc]
              rfl
            · rw [if_neg h1, ih _ _ _ _ _ hs, Nat.add_assoc, List.append_assoc]
              rfl
          · rw [Nat.min_eq_left (by omega)]
            have hf : c + m < s.1 → pfst (fun q => left.testBit q && decide (frN S a q + Dt S P n (left ^^^ 2 ^ q) q = m)) 0 (k + 1) = pfst (fun q => left.testBit q && decide (frN S a q + Dt S P n (left ^^^ 2 ^ q) q = m)) 0 k := by
              intro h1
              rcases hex with x | ⟨q, q1, q2, q3, q4⟩
              · omega
              · have lt : pfst (fun q => left.testBit q && decide (frN S a q + Dt S P n (left ^^^ 2 ^ q) q = m)) 0 k < 0 + k := by
                  have h2 := pfst_le (fun q => left.testBit q && decide (frN S a q + Dt S P n (left ^^^ 2 ^ q) q = m)) k 0
                  have hne : ¬ pfst (fun q => left.testBit q && decide (frN S a q + Dt S P n (left ^^^ 2 ^ q) q = m)) 0 k = 0 + k := fun x => by
                    have := (pfst_all _ k 0).mp x q (by omega) (by omega)
                    rw [q3] at this
                    simp at this
                    exact this q4
                  omega
                refine pfst_eq (pfst_is _ k 0 lt) (k + 1) 0 (by omega) (by omega) (fun j j1 j2 => pfst_min _ k 0 j j1 j2)
            by_cases h1 : c + m < s.1
            · rw [if_pos h1, if_pos h1, hf h1, ih _ _ _ _ _ (show (c + m, _).1 ≤ 1000000 from by show c + m ≤ _; omega)]
              show (if c + frN S a k + Dt S P n (left ^^^ 2 ^ k) k < c + m then _ else _) = _
              rw [if_neg (by omega)]
            · rw [if_neg h1, if_neg h1, ih _ _ _ _ _ hs, if_neg (by omega)]
        · have ed : dst S (fun q => Dt S P n (left ^^^ 2 ^ q) q) left a k m = m := by unfold dst; rw [e]; rfl
          rw [ed, e]
          simp only [Bool.false_eq_true, ↓reduceIte]
          by_cases h1 : c + m < s.1
          · rw [if_pos h1, if_pos h1]
            have hf : pfst (fun q => left.testBit q && decide (frN S a q + Dt S P n (left ^^^ 2 ^ q) q = m)) 0 (k + 1) = pfst (fun q => left.testBit q && decide (frN S a q + Dt S P n (left ^^^ 2 ^ q) q = m)) 0 k := by
              rcases hex with x | ⟨q, q1, q2, q3, q4⟩
              · omega
              · have lt : pfst (fun q => left.testBit q && decide (frN S a q + Dt S P n (left ^^^ 2 ^ q) q = m)) 0 k < 0 + k := by
                  have h2 := pfst_le (fun q => left.testBit q && decide (frN S a q + Dt S P n (left ^^^ 2 ^ q) q = m)) k 0
                  have hne : ¬ pfst (fun q => left.testBit q && decide (frN S a q + Dt S P n (left ^^^ 2 ^ q) q = m)) 0 k = 0 + k := fun x => by
                    have := (pfst_all _ k 0).mp x q (by omega) (by omega)
                    rw [q3] at this
                    simp at this
                    exact this q4
                  omega
                refine pfst_eq (pfst_is _ k 0 lt) (k + 1) 0 (by omega) (by omega) (fun j j1 j2 => pfst_min _ k 0 j j1 j2)
            rw [hf]
          · rw [if_neg h1, if_neg h1]
    exact key P (Nat.le_refl _)
theorem Rt_len {S : Nat → Int32} {P : Nat} : ∀ n left a, (Rt S P n left a).length = n := by
  intro n
  induction n with
  | zero => intro _ _; rfl
  | succ n ih => intro left a; rw [Rt, List.length_cons, ih]
/-! a visit -/
theorem sR_10 {Y : MM} {G H : Nat → Int32} {j : Nat} {v : Int32} : mx_si (sR 9 (sR 10 Y H) G) 10 j v = sR 9 (sR 10 Y (upd H j v)) G := by
  rw [sR_comm (show 9 ≠ 10 by omega), sR_i, sR_comm (show 9 ≠ 10 by omega)]
theorem m_199 {Y : MM} {G : Nat → Int32} {i1 i4 : Int32} {l : List Nat} {k225 : Int32 → MM → Option (Int32 × MM)} (hl : l.length ≤ 7) (h : rep G l) : ∀ c k f H, k + c = l.length → c < f → (∀ j, j < k → H j = G j) → ∃ H', fX13_tour_199 i1 (nI l.length) i4 k225 f (nI k) (sR 9 (sR 10 Y H) G) = k225 i4 (sR 9 (sR 10 Y H') G) ∧ rep H' l := by
  intro c
  induction c with
  | zero =>
    intro k f H hk hf hH
    obtain ⟨f, rfl⟩ : ∃ z, f = z + 1 := ⟨f - 1, by omega⟩
    refine ⟨H, ?_, fun j x hx => ?_⟩
    · rw [fX13_tour_199, if_pos (nI_le (by omega) (by omega))]
    · have : j < l.length := (List.getElem?_eq_some_iff.mp hx).1
      rw [hH j (by omega)]; exact h j x hx
  | succ c ih =>
    intro k f H hk hf hH
    obtain ⟨f, rfl⟩ : ∃ z, f = z + 1 := ⟨f - 1, by omega⟩
    rw [fX13_tour_199, if_neg (nI_ge (by omega) (by omega)), pb_gd (by omega) (by omega), pb_gd (by omega) (by omega), nI_clamp (by omega), sR_c, sR_10, nI_1]
    refine ih (k + 1) f _ (by omega) (by omega) (fun j hj => ?_)
    by_cases e : j = k
    · subst e; rw [pk_us]
    · rw [pk_un e]; exact hH j (by omega)
theorem pcost_le {S : Nat → Int32} {P N : Nat} (hW : wSt S P N) : ∀ l a, a < P → (∀ z, z ∈ l → z < P) → pcost S a l ≤ 40 * l.length := by
  intro l
  induction l with
  | nil => intro a _ _; exact Nat.le_refl _
  | cons x l ih =>
    intro a ha h
    have h1 := (frN_eq hW ha (h x (by simp))).2
    have h2 := ih x (h x (by simp)) (fun z hz => h z (by simp [hz]))
    rw [pcost, List.length_cons]
    omega
theorem m_139 {Y : MM} {G H : Nat → Int32} {S : Nat → Int32} {P N q0 b : Nat} {l : List Nat} {k128 : Int32 → Bool → MM → Option (Int32 × MM)} (hS : Y.1 2 = S) (hP : P ≤ 7) (hW : wSt S P N) (hq : q0 < P) (hl : l.length ≤ 7) (hb : ∀ z, z ∈ l → z < P) (h : rep G l) : ∀ rest d a f s, l = d ++ rest → (d = [] ∧ a = q0 ∨ ∃ d', d = d' ++ [a]) → a < P → rest.length < f → s ≤ 40 * d.length → fX13_tour_139 (nI q0) (nI l.length) k128 f (nI b) (nI s) (nI d.length) (sR 9 (sR 10 Y H) G) = if nI b ≤ nI (s + pcost S a rest) then fX13_tour_225 (nI q0) (nI l.length) k128 (nI b) (sR 9 (sR 10 Y H) G) else fX13_tour_199 (nI q0) (nI l.length) (nI (s + pcost S a rest)) (fun i4' M' => fX13_tour_225 (nI q0) (nI l.length) k128 i4' M') mx_fu (0 : Int32) (sR 9 (sR 10 Y H) G) := by
  have h2 : (sR 9 (sR 10 Y H) G).1 2 = S := by rw [sR_n (by omega), sR_n (by omega), hS]
  intro rest
  induction rest with
  | nil =>
    intro d a f s hd _ _ hf _
    obtain ⟨f, rfl⟩ : ∃ z, f = z + 1 := ⟨f - 1, by omega⟩
    rw [List.append_nil] at hd
    subst hd
    rw [fX13_tour_139, if_pos (Int32.le_refl _)]
    rfl
  | cons x rest ih =>
    intro d a f s hd ha haP hf hs
    obtain ⟨f, rfl⟩ : ∃ z, f = z + 1 := ⟨f - 1, by omega⟩
    have hlen : l.length = d.length + (rest.length + 1) := by rw [hd]; simp
    have hx : G d.length = nI x := h _ _ (by rw [hd]; exact ix1)
    have hxP : x < P := hb x (by rw [hd]; simp)
    obtain ⟨f1, f2⟩ := frN_eq hW haP hxP
    have hfar : fX13_farOf (nI a) (nI x) (sR 9 (sR 10 Y H) G) = some (nI (frN S a x)) := by rw [m_farOf (by omega) (by omega), h2, f1]
    have hstep : fX13_tour_166 (nI q0) (nI l.length) (fX13_tour_139 (nI q0) (nI l.length) k128 f) (nI b) (nI d.length) (nI s) (nI a) (sR 9 (sR 10 Y H) G) = fX13_tour_139 (nI q0) (nI l.length) k128 f (nI b) (nI (s + frN S a x)) (nI (d ++ [x]).length) (sR 9 (sR 10 Y H) G) := by
      rw [fX13_tour_166, pb_gd (by omega) (by omega), nI_clamp (by omega), sR_c, hx, hfar]
      simp only [pb_bs]
      rw [nI_add, nI_1]
      simp
    have goal := ih (d ++ [x]) x f (s + frN S a x) (by rw [hd]; simp) (Or.inr ⟨d, rfl⟩) hxP (by simp at hf; omega) (by simp; omega)
    have ec : s + frN S a x + pcost S x rest = s + pcost S a (x :: rest) := by rw [pcost]; omega
    rw [ec] at goal
    rw [fX13_tour_139, if_neg (nI_ge (by omega) (by omega))]
    rcases ha with ⟨e1, e2⟩ | ⟨d', e1⟩
    · subst e1
      subst e2
      rw [if_pos (show nI ([] : List Nat).length = 0 from rfl), hstep]
      exact goal
    · have hd1 : d.length = d'.length + 1 := by rw [e1]; simp
      have hG : G d'.length = nI a := h _ _ (by
        rw [hd, e1, List.append_assoc]; exact ix1)
      have e0 : ¬ nI d.length = 0 := nI_ne0 (by omega) (by omega)
      have em : nI d.length - (1 : Int32) = nI d'.length := by rw [c1, pk_sub (by omega), hd1]; rfl
      rw [if_neg e0, em, pb_gd (by omega) (by omega), nI_clamp (by omega), sR_c, hG, hstep]
      exact goal
theorem m_visit {Y : MM} {G H : Nat → Int32} {S : Nat → Int32} {P N q0 : Nat} {l R : List Nat} {b f : Nat} (hS : Y.1 2 = S) (hP : P ≤ 7) (hW : wSt S P N) (hq : q0 < P) (hl : l.length ≤ 7) (hb : ∀ z, z ∈ l → z < P) (hb1 : b ≤ 1000000) (h : rep G l) (hR : rep H R) : ∃ H', fX13_tour_128 (nI q0) (nI l.length) (f + 1) (nI b) true (sR 9 (sR 10 Y H) G) = ((fX13_reorders (nI l.length) (sR 9 (sR 10 Y H') G)).bind fun q => fX13_tour_128 (nI q0) (nI l.length) f (nI (vis (pcost S q0 l) l (b, R)).1) q.1 q.2) ∧ rep H' (vis (pcost S q0 l) l (b, R)).2 := by
  have hc := pcost_le hW l q0 hq hb
  have h139 := m_139 (Y := Y) (G := G) (H := H) (b := b) (k128 := fX13_tour_128 (nI q0) (nI l.length) f) hS hP hW hq hl hb h l [] q0 mx_fu 0 rfl (Or.inl ⟨rfl, rfl⟩) hq (by unfold mx_fu; omega) (by omega)
  rw [List.length_nil, nI_0, Nat.zero_add] at h139
  rw [fX13_tour_128, if_neg b_t, h139]
  by_cases e : pcost S q0 l < b
  · obtain ⟨H', k1, k2⟩ := m_199 (Y := Y) (i1 := nI q0) (i4 := nI (pcost S q0 l)) (k225 := fun i4' M' => fX13_tour_225 (nI q0) (nI l.length) (fX13_tour_128 (nI q0) (nI l.length) f) i4' M') hl h l.length 0 mx_fu H (by omega) (by unfold mx_fu; omega) (fun j hj => by omega)
    rw [nI_0] at k1
    have ev : vis (pcost S q0 l) l (b, R) = (pcost S q0 l, l) := by unfold vis; rw [if_pos e]
    rw [if_neg (nI_ge e (by omega)), k1, ev]
    exact ⟨H', rfl, k2⟩
  · have ev : vis (pcost S q0 l) l (b, R) = (b, R) := by unfold vis; rw [if_neg e]
    rw [if_pos (nI_le (by omega) (by omega)), ev]
    exact ⟨H, rfl, hR⟩
theorem pcost_app {S : Nat → Int32} : ∀ l a x, pcost S a (l ++ [x]) = pcost S a l + frN S ((a :: l).getLast (by simp)) x := by
  intro l
  induction l with
  | nil => intro a x; rw [List.nil_append, pcost, pcost, pcost]; simp
  | cons y l ih => intro a x; rw [List.cons_append, pcost, ih y x, pcost, Nat.add_assoc]; simp
def lastOf (q0 : Nat) (p : List Nat) : Nat := (q0 :: p).getLast (by simp)
theorem lastOf_app {q0 x : Nat} {p : List Nat} : lastOf q0 (p ++ [x]) = x := List.getLast_concat (l := q0 :: p)
theorem pfor_none {σ : Type} {left : Nat} {g : Nat → σ → σ} : ∀ c k s, els left c k = [] → pfor (fun q s => if left.testBit q then g q s else s) k c s = s := by
  intro c
  induction c with
  | zero => intro k s _; rfl
  | succ c ih =>
    intro k s h
    rw [els] at h
    rw [pfor]
    rcases Bool.eq_false_or_eq_true (left.testBit k) with e | e
    · rw [e, if_pos rfl] at h; cases h
    · rw [e] at h ⊢
      simp only [Bool.false_eq_true, ↓reduceIte] at h ⊢
      exact ih (k + 1) s h
def fac : Nat → Nat
  | 0 => 1
  | n + 1 => (n + 1) * fac n
theorem VP_le {S : Nat → Int32} {P : Nat} {n : Nat} {p : List Nat} {a c left : Nat} {s : Nat × List Nat} (h : s.1 ≤ 1000000) : (VP S P n p a c left s).1 ≤ 1000000 := by
  rw [VP_D n p a c left s h]
  split
  · show c + Dt S P n left a ≤ _; omega
  · exact h
theorem m_run {Y : MM} {S : Nat → Int32} {P N q0 : Nat} (hS : Y.1 2 = S) (hP : P ≤ 7) (hW : wSt S P N) (hq : q0 < P) :
    ∀ n left p f G H s, popc left = n → left < 2 ^ P → (p ++ els left P 0).length ≤ 7 → (∀ z, z ∈ p → z < P) → s.1 ≤ 1000000 → rep G (p ++ els left P 0) → rep H s.2 → ∃ G' H', fX13_tour_128 (nI q0) (nI (p ++ els left P 0).length) (f + fac n) (nI s.1) true (sR 9 (sR 10 Y H) G) = ((fX13_reorders (nI (p ++ els left P 0).length) (sR 9 (sR 10 Y H') G')).bind fun q => fX13_tour_128 (nI q0) (nI (p ++ els left P 0).length) f (nI (VP S P n p (lastOf q0 p) (pcost S q0 p) left s).1) q.1 q.2) ∧ rep G' (p ++ (els left P 0).reverse) ∧ rep H' (VP S P n p (lastOf q0 p) (pcost S q0 p) left s).2 := by
  have h128 : 2 ^ P ≤ 2 ^ 7 := Nat.pow_le_pow_right (by omega) hP
  intro n
  induction n with
  | zero =>
    intro left p f G H s hp hl hlen hpb hs hG hH
    have h0 := els_len P (by omega) left (by omega) hl
    have he : els left P 0 = [] := List.length_eq_zero_iff.mp (by omega)
    rw [he, List.append_nil] at hG hlen ⊢
    obtain ⟨H', a1, a2⟩ := m_visit (b := s.1) (f := f) (R := s.2) hS hP hW hq hlen hpb hs hG hH
    exact ⟨G, H', a1, by simpa using hG, a2⟩
  | succ n ih =>
    intro left p f G H s hp hl hlen hpb hs hG hH
    -- the heads, from k on
    have HL : ∀ c k f G H s, k + c = P → els left c k ≠ [] → s.1 ≤ 1000000 → (∀ q B, els left c k = q :: B → rep G (p ++ q :: (els left k 0 ++ B))) → rep H s.2 → ∃ G' H', fX13_tour_128 (nI q0) (nI (p ++ els left P 0).length) (f + (els left c k).length * fac n) (nI s.1) true (sR 9 (sR 10 Y H) G) = ((fX13_reorders (nI (p ++ els left P 0).length) (sR 9 (sR 10 Y H') G')).bind fun q => fX13_tour_128 (nI q0) (nI (p ++ els left P 0).length) f (nI (pfor (fun q s => if left.testBit q then VP S P n (p ++ [q]) q (pcost S q0 p + frN S (lastOf q0 p) q) (left ^^^ 2 ^ q) s else s) k c s).1) q.1 q.2) ∧ rep G' (p ++ (els left P 0).reverse) ∧ rep H' (pfor (fun q s => if left.testBit q then VP S P n (p ++ [q]) q (pcost S q0 p + frN S (lastOf q0 p) q) (left ^^^ 2 ^ q) s else s) k c s).2 := by
      intro c
      induction c with
      | zero => intro k f G H s _ h; exact absurd rfl h
      | succ c ihc =>
        intro k f G H s hk hne hs hG hH
        have hall : els left P 0 = els left k 0 ++ els left (c + 1) k := by
          have := els_app (left := left) k (c + 1) 0
          rw [Nat.zero_add, hk] at this
          exact this
        have hsn : els left (k + 1) 0 = els left k 0 ++ els left 1 k := by
          have := els_app (left := left) k 1 0
          rw [Nat.zero_add] at this
          exact this
        rw [pfor]
        rcases Bool.eq_false_or_eq_true (left.testBit k) with e | e
        · have hB : els left (c + 1) k = k :: els left c (k + 1) := by rw [els, e, if_pos rfl]
          have h1k : els left 1 k = [k] := by rw [els, e, if_pos rfl, els]
          have hkP : k < P := by omega
          obtain ⟨-, o2, o3⟩ := bit_off left (by omega) k (by omega) e
          have hout := els_out hkP e
          rw [show P - (k + 1) = c by omega] at hout
          have hG1 := hG k (els left c (k + 1)) hB
          have hperm : (p ++ [k] ++ els (left ^^^ 2 ^ k) P 0).length = (p ++ els left P 0).length := by
            rw [hout, hall, hB]; simp; omega
          have hpb' : ∀ z, z ∈ p ++ [k] → z < P := fun z hz => by
            rcases List.mem_append.mp hz with x | x
            · exact hpb z x
            · simp at x; omega
          obtain ⟨G1, H1, a1, a2, a3⟩ := ih (left ^^^ 2 ^ k) (p ++ [k]) (f + (els left c (k + 1)).length * fac n) G H s (by omega) (by omega) (by rw [hperm]; exact hlen) hpb' hs (by
            rw [hout]
            have x : p ++ [k] ++ (els left k 0 ++ els left c (k + 1)) = p ++ k :: (els left k 0 ++ els left c (k + 1)) := by simp
            rw [x]; exact hG1) hH
          rw [hperm, lastOf_app, pcost_app] at a1
          rw [lastOf_app, pcost_app] at a3
          have hlo : (q0 :: p).getLast (by simp) = lastOf q0 p := rfl
          rw [hlo] at a1 a3
          have efuel : f + (els left (c + 1) k).length * fac n = f + (els left c (k + 1)).length * fac n + fac n := by
            rw [hB, List.length_cons, Nat.succ_mul, Nat.add_assoc]
          rw [efuel, a1, e, if_pos rfl]
          generalize hs1 : VP S P n (p ++ [k]) k (pcost S q0 p + frN S (lastOf q0 p) k) (left ^^^ 2 ^ k) s = s1 at a3
          have hs1' : s1.1 ≤ 1000000 := by rw [← hs1]; exact VP_le hs
          rw [hout] at a2
          cases hB2 : els left c (k + 1) with
          | nil =>
            rw [hB2] at a2 hB
            rw [List.length_nil, Nat.zero_mul, Nat.add_zero, pfor_none c (k + 1) s1 hB2]
            refine ⟨G1, H1, rfl, ?_, a3⟩
            have x : p ++ (els left P 0).reverse = p ++ [k] ++ (els left k 0 ++ []).reverse := by rw [hall, hB]; simp
            rw [x]; exact a2
          | cons q' B'' =>
            rw [hB2] at a2
            have hpw : (els left k 0 ++ k :: q' :: B'').Pairwise (· < ·) := by
              rw [← hB2, ← hB, ← hall]; exact els_pw P 0
            have hlen3 : (p ++ k :: (els left k 0 ++ q' :: B'')).length = (p ++ els left P 0).length := by
              rw [hall, hB, hB2]; simp; omega
            obtain ⟨G2, r1, r2⟩ := reo_step (Y := sR 10 Y H1) (G := G1) (p := p) (A := els left k 0) (B := B'') (q := k) (q' := q') (by rw [hlen3]; exact hlen) hpw (fun z hz => by
              rw [← hB2, ← hB, ← hall] at hz
              have := els_mem P 0 z hz
              omega) (by
              have x : p ++ k :: (els left k 0 ++ q' :: B'').reverse = p ++ [k] ++ (els left k 0 ++ q' :: B'').reverse := by simp
              rw [x]; exact a2)
            rw [hlen3] at r1
            rw [r1]
            simp only [pb_bs]
            have hne2 : els left c (k + 1) ≠ [] := by rw [hB2]; exact fun x => by cases x
            obtain ⟨G3, H3, b1, b2, b3⟩ := ihc (k + 1) f G2 H1 s1 (by omega) hne2 hs1' (fun q B hqB => by
              rw [hB2] at hqB
              cases hqB
              rw [hsn, h1k]
              have x : p ++ q' :: (els left k 0 ++ [k] ++ B'') = p ++ q' :: (els left k 0 ++ k :: B'') := by simp
              rw [x]; exact r2) a3
            rw [hB2] at b1
            exact ⟨G3, H3, b1, b2, b3⟩
        · have hB : els left (c + 1) k = els left c (k + 1) := by rw [els, e]; rfl
          have h1k : els left 1 k = [] := by rw [els, e, els]; rfl
          rw [e]
          simp only [Bool.false_eq_true, ↓reduceIte]
          rw [hB] at hne ⊢
          refine ihc (k + 1) f G H s (by omega) hne hs (fun q B hqB => ?_) hH
          rw [hsn, h1k, List.append_nil]
          exact hG q B (by rw [hB]; exact hqB)
    have hlen2 := els_len P (by omega) left (by omega) hl
    have hne : els left P 0 ≠ [] := fun x => by rw [x] at hlen2; simp at hlen2; omega
    have := HL P 0 f G H s (by omega) hne hs (fun q B hqB => by
      show rep G (p ++ q :: ([] ++ B))
      rw [List.nil_append, ← hqB]; exact hG) hH
    rw [hlen2, hp] at this
    exact this
