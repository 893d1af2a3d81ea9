/-! ways: sums over sets; the operator that gives one ring -/
def sm (f : Nat → Int32) (n : Nat) : Int32 := pfor (fun t acc => acc + f t) 0 n 0
theorem sm_succ {f : Nat → Int32} {n : Nat} : sm f (n + 1) = sm f n + f n := by
  unfold sm
  rw [pfor_succ, Nat.zero_add]
theorem sm_congr {f g : Nat → Int32} : ∀ n, (∀ t, t < n → f t = g t) → sm f n = sm g n := by
  intro n
  induction n with
  | zero => intro _; rfl
  | succ n ih => intro h; rw [sm_succ, sm_succ, ih (fun t ht => h t (by omega)), h n (by omega)]
theorem sm_zero : ∀ n, sm (fun _ => 0) n = 0 := by
  intro n
  induction n with
  | zero => rfl
  | succ n ih => rw [sm_succ, ih]; rfl
theorem sm_upd {F g : Nat → Int32} {j : Nat} {d : Int32} : ∀ n, j < n → sm (fun t => upd F j (F j + d) t * g t) n = sm (fun t => F t * g t) n + d * g j := by
  intro n
  induction n with
  | zero => intro h; omega
  | succ n ih =>
    intro h
    rw [sm_succ, sm_succ]
    by_cases e : j = n
    · subst e
      rw [pk_us, Int32.add_mul, sm_congr (g := fun t => F t * g t) j (fun t ht => by rw [pk_un (by omega)]), Int32.add_assoc]
    · rw [ih (by omega), pk_un (by omega), Int32.add_assoc, Int32.add_assoc, Int32.add_comm (d * g j)]
theorem sm_one {w : Int32} : ∀ n, 0 < n → sm (fun t => if t = 0 then w else 0) n = w := by
  intro n
  induction n with
  | zero => intro h; omega
  | succ n ih =>
    intro _
    rw [sm_succ]
    by_cases e : n = 0
    · subst e
      show (0 : Int32) + (if 0 = 0 then w else 0) = w
      rw [if_pos rfl, Int32.zero_add]
    · rw [ih (by omega), if_neg e, Int32.add_zero]
def okF (S : Nat → Int32) (r s q : Nat) : Bool := !s.testBit q && sFit S r q
def bst1 (S : Nat → Int32) (r : Nat) (w : Nat → Int32) (s q : Nat) (acc : Int32) : Int32 := if okF S r s q then acc + w (s ||| 2 ^ q) else acc
def opB (S : Nat → Int32) (P r : Nat) (w : Nat → Int32) (s : Nat) : Int32 := pfor (bst1 S r w s) 0 P 0
def opBs (S : Nat → Int32) (P : Nat) : List Nat → (Nat → Int32) → Nat → Int32
  | [], w => w
  | r :: L, w => opB S P r (opBs S P L w)
theorem okF_b {S : Nat → Int32} {r s q : Nat} (h : okF S r s q = true) : s.testBit q = false := by
  simp only [okF, Bool.and_eq_true, Bool.not_eq_true'] at h
  exact h.1
theorem opB_congr {S : Nat → Int32} {P r : Nat} {w w' : Nat → Int32} (hP : P ≤ 7) (h : ∀ t, t < 128 → w t = w' t) : ∀ s, s < 128 → opB S P r w s = opB S P r w' s := by
  intro s hs
  unfold opB
  refine pfor_congr P 0 0 (fun q acc _ hq => ?_)
  unfold bst1
  rw [h _ (bit_or s hs q (by omega)).2]
theorem opBs_congr {S : Nat → Int32} {P : Nat} {w w' : Nat → Int32} (hP : P ≤ 7) (h : ∀ t, t < 128 → w t = w' t) : ∀ (L : List Nat) (s : Nat), s < 128 → opBs S P L w s = opBs S P L w' s := by
  intro L
  induction L with
  | nil => exact h
  | cons r L ih => exact opB_congr hP ih
theorem opBs_app {S : Nat → Int32} {P : Nat} {w : Nat → Int32} : ∀ (L K : List Nat), opBs S P (L ++ K) w = opBs S P L (opBs S P K w) := by
  intro L
  induction L with
  | nil => intro K; rfl
  | cons r L ih => intro K; show opB S P r (opBs S P (L ++ K) w) = _; rw [ih]; rfl
/-- one person taken out: commutes with giving rings -/
def opC (q : Nat) (w : Nat → Int32) (s : Nat) : Int32 := if s.testBit q then 0 else w (s ||| 2 ^ q)
theorem opC_B {S : Nat → Int32} {P r p : Nat} {w : Nat → Int32} (s : Nat) : opC p (opB S P r w) s = opB S P r (opC p w) s := by
  unfold opC opB
  by_cases h : s.testBit p = true
  · rw [if_pos h]
    have key : ∀ c k, pfor (bst1 S r (fun s => if s.testBit p then 0 else w (s ||| 2 ^ p)) s) k c 0 = 0 := by
      intro c
      induction c with
      | zero => intro k; rfl
      | succ c ih =>
        intro k
        rw [pfor]
        have e : bst1 S r (fun s => if s.testBit p then 0 else w (s ||| 2 ^ p)) s k 0 = 0 := by
          unfold bst1
          split
          · have : (s ||| 2 ^ k).testBit p = true := by rw [Nat.testBit_or, h]; rfl
            show (0 : Int32) + (if (s ||| 2 ^ k).testBit p = true then 0 else w (s ||| 2 ^ k ||| 2 ^ p)) = 0
            rw [if_pos this]; rfl
          · rfl
        rw [e]; exact ih (k + 1)
    exact (key P 0).symm
  · rw [if_neg h]
    refine pfor_congr P 0 0 (fun q acc _ hq => ?_)
    have h' : s.testBit p = false := by simpa using h
    unfold bst1 okF
    rw [Nat.testBit_or, Nat.testBit_two_pow]
    by_cases e : p = q
    · subst e
      simp only [decide_true, Bool.or_true, Bool.not_true, Bool.false_and, Bool.false_eq_true, ↓reduceIte]
      rw [Nat.testBit_or, Nat.testBit_two_pow]
      simp
    · have e' : decide (p = q) = false := by simpa using e
      show _ = if _ then acc + (if (s ||| 2 ^ q).testBit p = true then 0 else w (s ||| 2 ^ q ||| 2 ^ p)) else acc
      rw [e', Bool.or_false, Nat.testBit_or, Nat.testBit_two_pow, h']
      have e'' : decide (q = p) = false := by simp; exact fun x => e x.symm
      rw [e'']
      simp only [Bool.or_false, Bool.false_eq_true, ↓reduceIte]
      rw [Nat.or_assoc, Nat.or_comm (2 ^ p), ← Nat.or_assoc]
theorem opC_Bs {S : Nat → Int32} {P p : Nat} {w : Nat → Int32} : ∀ (L : List Nat), opC p (opBs S P L w) = opBs S P L (opC p w) := by
  intro L
  induction L with
  | nil => rfl
  | cons r L ih =>
    funext s
    show opC p (opB S P r (opBs S P L w)) s = opB S P r (opBs S P L (opC p w)) s
    rw [opC_B, ih]
/-! the class's table -/
theorem x_mayHave {P N r s q : Nat} {X : MM} {S : Nat → Int32} (hL : wLd S P N) (hX : rLd X S P N) (hr : r < N) (hq : q < P) (hs : s < 128) : fX2_mayHave (nI s) (nI q) (nI r) X = some (okF S r s q) := by
  have hP := hL.2.1
  have hN := hL.2.2.2.1
  obtain ⟨⟨z, z1, z2, ez⟩, -⟩ := hL.2.2.2.2.2.2.2.2 r hr
  have hb := bit_z s hs q (by omega)
  rw [fX2_mayHave, if_pos (pb_in (show r < 7 by omega) (by omega)), nI_clamp (by omega), (hX.2.2.2.2.2.2 r hr).1, ez, x_feel hL hX (by omega) hq]
  simp only [pb_bs]
  unfold okF sFit
  rw [ez]
  by_cases h : s.testBit q = true
  · rw [h] at hb
    have hb' : ¬ ((nI s >>> (nI q &&& 31)) &&& (1 : Int32)) = 0 := by simpa using hb
    rw [if_neg hb', h]; rfl
  · have h' : s.testBit q = false := by simpa using h
    rw [h'] at hb
    have hb' : ((nI s >>> (nI q &&& 31)) &&& (1 : Int32)) = 0 := by simpa using hb
    rw [if_pos hb', h']
    by_cases h1 : sFeel S (nI z) q = 1 <;> simp [h1]
def stF (S : Nat → Int32) (r s q : Nat) (F : Nat → Int32) : Nat → Int32 := if okF S r s q then upd F (s ||| 2 ^ q) (F (s ||| 2 ^ q) + F s) else F
def outF (S : Nat → Int32) (P r k s : Nat) (F : Nat → Int32) : Nat → Int32 := if F s = 0 then F else if popc s = k then pfor (stF S r s) 0 P F else F
theorem rLd_sR {P N c : Nat} {X : MM} {S F : Nat → Int32} (hc : 19 ≤ c) (hL : wLd S P N) (hX : rLd X S P N) : rLd (sR c X F) S P N := by
  rw [← rLo_9]; exact rLo_fr (fun k a b => sR_n (by omega)) hL.2.1 hL.2.2.2.1 (fun _ _ => rfl) hX
theorem x_give33 {P N r s : Nat} {X : MM} {S : Nat → Int32} {i3 : Int32} {k3 : Int32 → MM → Option MM} (hL : wLd S P N) (hX : rLd X S P N) (hr : r < N) (hs : s < 128) : ∀ c q n F, q + c = P → c < n → fX2_giveOne_33 (nI r) i3 k3 n (nI s) (nI q) (sR 150 X F) = k3 (nI (s + 1)) (sR 150 X (pfor (stF S r s) q c F)) := by
  have hP := hL.2.1
  intro c
  induction c with
  | zero =>
    intro q n F hq hn
    obtain ⟨n, rfl⟩ : ∃ z, n = z + 1 := ⟨n - 1, by omega⟩
    rw [fX2_giveOne_33, sR_n (by omega), hX.1, hL.1, if_pos (nI_le (by omega) (by omega)), nI_1]
    rfl
  | succ c ih =>
    intro q n F hq hn
    obtain ⟨n, rfl⟩ : ∃ z, n = z + 1 := ⟨n - 1, by omega⟩
    obtain ⟨o1, o2⟩ := bit_or s hs q (by omega)
    rw [fX2_giveOne_33, sR_n (by omega), hX.1, hL.1, if_neg (nI_ge (by omega) (by omega)), x_mayHave hL (rLd_sR (by omega) hL hX) hr (by omega) hs]
    simp only [pb_bs]
    rw [pfor]
    rcases Bool.eq_false_or_eq_true (okF S r s q) with e | e
    · have es : stF S r s q F = upd F (s ||| 2 ^ q) (F (s ||| 2 ^ q) + F s) := by unfold stF; rw [e, if_pos rfl]
      rw [e, if_neg b_t, o1, pb_gd o2 (by omega), pb_gd hs (by omega), pb_gd o2 (by omega), nI_clamp (by omega), nI_clamp (by omega), sR_c, sR_i, nI_1, es]
      exact ih (q + 1) n _ (by omega) (by omega)
    · have es : stF S r s q F = F := by unfold stF; rw [e]; rfl
      rw [e, if_pos b_f, nI_1, es]
      exact ih (q + 1) n _ (by omega) (by omega)
theorem x_giveOne {P N r k : Nat} {X : MM} {S : Nat → Int32} (hL : wLd S P N) (hX : rLd X S P N) (hr : r < N) (hk : k ≤ 7) : ∀ c s n F, s + c = 128 → c < n → fX2_giveOne_3 (nI r) (nI k) n (nI s) (sR 150 X F) = some (sR 150 X (pfor (outF S P r k) s c F)) := by
  intro c
  induction c with
  | zero =>
    intro s n F hs hn
    obtain ⟨n, rfl⟩ : ∃ z, n = z + 1 := ⟨n - 1, by omega⟩
    rw [fX2_giveOne_3, c128, if_pos (nI_le (by omega) (by omega))]
    rfl
  | succ c ih =>
    intro s n F hs hn
    obtain ⟨n, rfl⟩ : ∃ z, n = z + 1 := ⟨n - 1, by omega⟩
    rw [fX2_giveOne_3, c128, if_neg (nI_ge (by omega) (by omega)), pb_gd (by omega) (by omega), nI_clamp (by omega), sR_c, pfor, x_bitCount (by omega)]
    simp only [pb_bs]
    have hp7 := bit_pop s (by omega)
    by_cases e0 : F s = 0
    · have es : outF S P r k s F = F := by unfold outF; rw [if_pos e0]
      rw [if_pos e0, nI_1, es]
      exact ih (s + 1) n F (by omega) (by omega)
    · rw [if_neg e0]
      by_cases ek : popc s = k
      · have es : outF S P r k s F = pfor (stF S r s) 0 P F := by unfold outF; rw [if_neg e0, if_pos ek]
        rw [ek, if_pos rfl, es]
        have := x_give33 (X := X) (i3 := nI k) (k3 := fX2_giveOne_3 (nI r) (nI k) n) hL hX hr (show s < 128 by omega) P 0 mx_fu F (by omega) (by have := hL.2.1; unfold mx_fu; omega)
        rw [nI_0] at this
        rw [this]
        exact ih (s + 1) n _ (by omega) (by omega)
      · have es : outF S P r k s F = F := by unfold outF; rw [if_neg e0, if_neg ek]
        have ne : ¬ nI (popc s) = nI k := fun h => ek ((nI_eq (by omega) (by omega)).mp h)
        rw [if_neg ne, nI_1, es]
        exact ih (s + 1) n F (by omega) (by omega)
/-- the sum that giving keeps -/
def wsum (F : Nat → Int32) (k : Nat) (w : Nat → Int32) : Int32 := sm (fun t => F t * (if popc t = k then w t else 0)) 128
theorem st_inv {S : Nat → Int32} {P r s k : Nat} {w : Nat → Int32} {K : Int32} (hP : P ≤ 7) (hs : s < 128) (hk : popc s = k) : ∀ c q F a, q + c ≤ P → wsum F (k + 1) w = K + F s * a → wsum (pfor (stF S r s) q c F) (k + 1) w = K + F s * pfor (bst1 S r w s) q c a ∧ ∀ t, popc t ≠ k + 1 → pfor (stF S r s) q c F t = F t := by
  intro c
  induction c with
  | zero => intro q F a _ h; exact ⟨h, fun _ _ => rfl⟩
  | succ c ih =>
    intro q F a hq h
    rw [pfor, pfor]
    rcases Bool.eq_false_or_eq_true (okF S r s q) with e | e
    · have es : stF S r s q F = upd F (s ||| 2 ^ q) (F (s ||| 2 ^ q) + F s) := by unfold stF; rw [e, if_pos rfl]
      have eb : bst1 S r w s q a = a + w (s ||| 2 ^ q) := by unfold bst1; rw [e, if_pos rfl]
      obtain ⟨o1, o2⟩ := bit_or s hs q (by omega)
      have hp := bit_add s hs q (by omega) (okF_b e)
      have hne : s ≠ s ||| 2 ^ q := fun x => by rw [← x] at hp; omega
      rw [es, eb]
      have hu : upd F (s ||| 2 ^ q) (F (s ||| 2 ^ q) + F s) s = F s := pk_un hne
      obtain ⟨i1, i2⟩ := ih (q + 1) (upd F (s ||| 2 ^ q) (F (s ||| 2 ^ q) + F s)) (a + w (s ||| 2 ^ q)) (by omega) (by
        unfold wsum at h ⊢
        rw [sm_upd 128 o2, h, hu, if_pos (by omega), Int32.mul_add, Int32.add_assoc])
      rw [hu] at i1
      exact ⟨i1, fun t ht => by rw [i2 t ht, pk_un (fun x => by rw [x] at ht; omega)]⟩
    · have es : stF S r s q F = F := by unfold stF; rw [e]; rfl
      have eb : bst1 S r w s q a = a := by unfold bst1; rw [e]; rfl
      rw [es, eb]
      exact ih (q + 1) F a (by omega) h
theorem out_inv {S : Nat → Int32} {P r k : Nat} {w F0 : Nat → Int32} (hP : P ≤ 7) : ∀ c s F, s + c = 128 → (∀ t, popc t ≠ k + 1 → F t = F0 t) → wsum F (k + 1) w = sm (fun t => F0 t * (if popc t = k then opB S P r w t else 0)) s → wsum (pfor (outF S P r k) s c F) (k + 1) w = wsum F0 k (opB S P r w) ∧ ∀ t, popc t ≠ k + 1 → pfor (outF S P r k) s c F t = F0 t := by
  intro c
  induction c with
  | zero =>
    intro s F hs h1 h2
    have : s = 128 := by omega
    subst this
    exact ⟨h2, h1⟩
  | succ c ih =>
    intro s F hs h1 h2
    rw [pfor]
    by_cases ek : popc s = k
    · have eF : F s = F0 s := h1 s (by omega)
      have key := st_inv (S := S) (P := P) (r := r) (s := s) (k := k) (w := w) (K := wsum F (k + 1) w) hP (by omega) ek P 0 F 0 (by omega) (by rw [Int32.mul_zero, Int32.add_zero])
      by_cases e0 : F s = 0
      · have es : outF S P r k s F = F := by unfold outF; rw [if_pos e0]
        rw [es]
        refine ih (s + 1) F (by omega) h1 ?_
        rw [sm_succ, ← h2, if_pos ek, ← eF, e0, Int32.zero_mul, Int32.add_zero]
      · have es : outF S P r k s F = pfor (stF S r s) 0 P F := by unfold outF; rw [if_neg e0, if_pos ek]
        rw [es]
        refine ih (s + 1) _ (by omega) (fun t ht => by rw [key.2 t ht]; exact h1 t ht) ?_
        rw [key.1, sm_succ, ← h2, if_pos ek, eF]
        rfl
    · have es : outF S P r k s F = F := by
        unfold outF
        split
        · rfl
        · first | rfl | rw [if_neg ek]
      rw [es]
      refine ih (s + 1) F (by omega) h1 ?_
      rw [sm_succ, ← h2, if_neg ek, Int32.mul_zero, Int32.add_zero]
/-- rings from r on, but l -/
def rg (l : Nat) : Nat → Nat → List Nat
  | 0, _ => []
  | c + 1, r => if r = l then rg l c (r + 1) else r :: rg l c (r + 1)
theorem x_allBut {P N l : Nat} {X : MM} {S : Nat → Int32} {i2 : Int32} (hL : wLd S P N) (hX : rLd X S P N) (hi : ∀ r, r < 7 → (nI r = i2 ↔ r = l)) : ∀ c r k n F, r + c = N → k ≤ r → c < n → (∀ t, t < 128 → k < popc t → F t = 0) → ∃ F', fX2_giveAllBut_35 i2 n (nI k) (nI r) (sR 150 X F) = some (nI (k + (rg l c r).length), sR 150 X F') ∧ ∀ w, wsum F' (k + (rg l c r).length) w = wsum F k (opBs S P (rg l c r) w) := by
  have hP := hL.2.1
  have hN := hL.2.2.2.1
  intro c
  induction c with
  | zero =>
    intro r k n F hr hk hn hz
    obtain ⟨n, rfl⟩ : ∃ z, n = z + 1 := ⟨n - 1, by omega⟩
    refine ⟨F, ?_, fun w => rfl⟩
    rw [fX2_giveAllBut_35, sR_n (by omega), hX.2.1, hL.2.2.1, if_pos (nI_le (by omega) (by omega))]
    rfl
  | succ c ih =>
    intro r k n F hr hk hn hz
    obtain ⟨n, rfl⟩ : ∃ z, n = z + 1 := ⟨n - 1, by omega⟩
    rw [fX2_giveAllBut_35, sR_n (by omega), hX.2.1, hL.2.2.1, if_neg (nI_ge (by omega) (by omega)), rg]
    by_cases e : r = l
    · rw [if_pos e, if_pos ((hi r (by omega)).mpr e), nI_1]
      exact ih (r + 1) k n F (by omega) (by omega) (by omega) hz
    · rw [if_neg e, if_neg (fun x => e ((hi r (by omega)).mp x)), fX2_giveOne]
      have hg := x_giveOne (X := X) (S := S) hL hX (show r < N by omega) (show k ≤ 7 by omega) 128 0 mx_fu F (by omega) (by unfold mx_fu; omega)
      rw [nI_0] at hg
      rw [hg]
      simp only [pb_bs]
      rw [nI_1, nI_1]
      have oi := fun w => out_inv (S := S) (P := P) (r := r) (k := k) (w := w) (F0 := F) hP 128 0 F (by omega) (fun _ _ => rfl) (by
        show wsum F (k + 1) w = 0
        unfold wsum
        rw [sm_congr (g := fun _ => 0) 128 (fun t ht => ?_), sm_zero]
        by_cases h1 : popc t = k + 1
        · rw [hz t ht (by omega), Int32.zero_mul]
        · rw [if_neg h1, Int32.mul_zero])
      obtain ⟨F', f1, f2⟩ := ih (r + 1) (k + 1) n (pfor (outF S P r k) 0 128 F) (by omega) (by omega) (by omega) (fun t ht hp => by
        rw [(oi (fun _ => 0)).2 t (by omega)]; exact hz t ht (by omega))
      refine ⟨F', ?_, fun w => ?_⟩
      · rw [f1, List.length_cons, show k + 1 + (rg l c (r + 1)).length = k + ((rg l c (r + 1)).length + 1) by omega]
      · rw [List.length_cons, show k + ((rg l c (r + 1)).length + 1) = k + 1 + (rg l c (r + 1)).length by omega, f2 w, (oi _).1]
        rfl
def eO (t : Nat) : Int32 := if t = 0 then 1 else 0
theorem wsum_eO {F w : Nat → Int32} (h : ∀ t, t < 128 → F t = eO t) : wsum F 0 w = w 0 := by
  unfold wsum
  rw [sm_congr (g := fun t => if t = 0 then w 0 else 0) 128 (fun t ht => ?_), sm_one 128 (by omega)]
  rw [h t ht]
  unfold eO
  by_cases e : t = 0
  · subst e
    rw [if_pos rfl, if_pos rfl, if_pos (show popc 0 = 0 from rfl), Int32.one_mul]
  · rw [if_neg e, if_neg e, Int32.zero_mul]
theorem x_fillW {X : MM} {i2 : Int32} : ∀ c s n F, s + c = 128 → c < n → (∀ t, t < s → F t = eO t) → ∃ F', fX2_giveAllBut_2 i2 n (nI s) (sR 150 X F) = fX2_giveAllBut_35 i2 mx_fu 0 0 (sR 150 X F') ∧ ∀ t, t < 128 → F' t = eO t := by
  intro c
  induction c with
  | zero =>
    intro s n F hs hn h
    obtain ⟨n, rfl⟩ : ∃ z, n = z + 1 := ⟨n - 1, by omega⟩
    exact ⟨F, by rw [fX2_giveAllBut_2, c128, if_pos (nI_le (by omega) (by omega))], fun t ht => h t (by omega)⟩
  | succ c ih =>
    intro s n F hs hn h
    obtain ⟨n, rfl⟩ : ∃ z, n = z + 1 := ⟨n - 1, by omega⟩
    rw [fX2_giveAllBut_2, c128, if_neg (nI_ge (by omega) (by omega)), fX2_giveAllBut_23, fX2_giveAllBut_23, pb_gd (by omega) (by omega), pb_gd (by omega) (by omega), nI_clamp (by omega), sR_i, sR_i, nI_1]
    by_cases e : s = 0
    · subst e
      rw [if_pos (show nI 0 = 0 from rfl)]
      refine ih 1 n _ (by omega) (by omega) (fun t ht => ?_)
      have : t = 0 := by omega
      subst this
      rw [pk_us]; rfl
    · rw [if_neg (nI_ne0 (by omega) (by omega))]
      refine ih (s + 1) n _ (by omega) (by omega) (fun t ht => ?_)
      by_cases e2 : t = s
      · subst e2; rw [pk_us]; unfold eO; rw [if_neg e]; rfl
      · rw [pk_un e2]; exact h t (by omega)
theorem x_given {P N l : Nat} {X : MM} {S : Nat → Int32} {i2 : Int32} (hL : wLd S P N) (hX : rLd X S P N) (hi : ∀ r, r < 7 → (nI r = i2 ↔ r = l)) : ∃ F', fX2_giveAllBut i2 X = some (nI (rg l N 0).length, sR 150 X F') ∧ ∀ w, wsum F' (rg l N 0).length w = opBs S P (rg l N 0) w 0 := by
  obtain ⟨F, a1, a2⟩ := x_fillW (X := X) (i2 := i2) 128 0 mx_fu (X.1 150) (by omega) (by unfold mx_fu; omega) (fun t ht => by omega)
  rw [sR_self, nI_0] at a1
  have hN := hL.2.2.2.1
  obtain ⟨F', b1, b2⟩ := x_allBut (X := X) hL hX hi N 0 0 mx_fu F (by omega) (by omega) (by unfold mx_fu; omega) (fun t ht hp => by
    rw [a2 t ht]
    unfold eO
    rw [if_neg (fun e => by subst e; exact absurd hp (by decide))])
  rw [nI_0, Nat.zero_add] at b1
  refine ⟨F', ?_, fun w => ?_⟩
  · rw [fX2_giveAllBut, a1, b1]
  · have := b2 w
    rw [Nat.zero_add] at this
    rw [this, wsum_eO a2]
theorem rg_len (l : Nat) : ∀ c r, (rg l c r).length ≤ c := by
  intro c
  induction c with
  | zero => intro r; exact Nat.le_refl _
  | succ c ih =>
    intro r
    rw [rg]
    split
    · have := ih (r + 1); omega
    · rw [List.length_cons]; have := ih (r + 1); omega
theorem x_sum12 {k : Nat} {X : MM} {F : Nat → Int32} (hk : k ≤ 7) : ∀ c s n acc, s + c = 128 → c < n → fX2_waysToGive_12 (nI k) n acc (nI s) (sR 150 X F) = some (pfor (fun t a => a + F t * (if popc t = k then 1 else 0)) s c acc, sR 150 X F) := by
  intro c
  induction c with
  | zero =>
    intro s n acc hs hn
    obtain ⟨n, rfl⟩ : ∃ z, n = z + 1 := ⟨n - 1, by omega⟩
    rw [fX2_waysToGive_12, c128, if_pos (nI_le (by omega) (by omega))]
    rfl
  | succ c ih =>
    intro s n acc hs hn
    obtain ⟨n, rfl⟩ : ∃ z, n = z + 1 := ⟨n - 1, by omega⟩
    have hp7 := bit_pop s (by omega)
    rw [fX2_waysToGive_12, c128, if_neg (nI_ge (by omega) (by omega)), x_bitCount (by omega)]
    simp only [pb_bs]
    rw [pb_gd (by omega) (by omega), nI_clamp (by omega), sR_c, nI_1, pfor]
    by_cases e : popc s = k
    · rw [if_pos (by rw [e]), if_pos e, Int32.mul_one]
      exact ih (s + 1) n _ (by omega) (by omega)
    · rw [if_neg (fun x => e ((nI_eq (by omega) (by omega)).mp x)), if_neg e, Int32.mul_zero, Int32.add_zero]
      exact ih (s + 1) n _ (by omega) (by omega)
theorem ne_m1 : ∀ r, r < 7 → (nI r = (-1 : Int32) ↔ r = 7) := by
  intro r hr
  have h : ∀ r, r < 7 → ¬ nI r = (-1 : Int32) := by decide
  exact ⟨fun e => absurd e (h r hr), fun e => by omega⟩
theorem x_ways {P N : Nat} {X : MM} {S : Nat → Int32} (hL : wLd S P N) (hX : rLd X S P N) : ∃ F, fX2_waysToGive X = some (opBs S P (rg 7 N 0) (fun _ => 1) 0, sR 150 X F) := by
  obtain ⟨F, a1, a2⟩ := x_given (X := X) hL hX ne_m1
  have h := x_sum12 (X := X) (F := F) (k := (rg 7 N 0).length) (by have := rg_len 7 N 0; have := hL.2.2.2.1; omega) 128 0 mx_fu 0 (by omega) (by unfold mx_fu; omega)
  rw [nI_0] at h
  refine ⟨F, ?_⟩
  rw [fX2_waysToGive, a1]
  simp only [pb_bs]
  rw [h, ← a2]
  rfl
