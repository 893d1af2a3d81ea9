theorem st_enum {args : Array Value} {s : State} (hs : ∀ c ∈ xgv, c.before args s = true) (hts : ∀ w ∈ lw_tbl, w.before args s = true) (hini : (Cond.initialized RX11).before args s = true) : ∃ K : Nat → Nat, ∀ w, w < 24 → (xtm w).eval args s none [] s = some (.ref (K w)) ∧ ∀ A : Nat → Prop, (∀ a : Nat, a < s.heap.size → ¬ A a) → va_Z RX11 (xwn w) "LRingKeepers$Word;" (.ref (K w)) A s s.heap ∧ va_O RX11 (K w) A s s.heap ∧ va_OF "java/lang/Enum" "ordinal" "I" (.int (nI w)) (K w) A s s.heap ∧ va_OF RX11 "code" "J" (.long (xwc w)) (K w) A s s.heap := by
  have h0 : ∀ w : Nat, ∃ a : Nat, w < 24 → (xtm w).eval args s none [] s = some (.ref a) ∧ ∀ A : Nat → Prop, (∀ a : Nat, a < s.heap.size → ¬ A a) → va_Z RX11 (xwn w) "LRingKeepers$Word;" (.ref a) A s s.heap ∧ va_O RX11 a A s s.heap ∧ va_OF "java/lang/Enum" "ordinal" "I" (.int (nI w)) a A s s.heap ∧ va_OF RX11 "code" "J" (.long (xwc w)) a A s s.heap := by
    intro w
    by_cases hw : w < 24
    · obtain ⟨a, c, cA, kA, q1, -⟩ := Cond.exactly_spec (args := args) (first := s) (o := none) (s := s) (idx := []) (t := xtm w) (cls := RX11) (hs _ (gv_ex w hw))
      exact ⟨a, fun _ => ⟨q1, fun A hA => ⟨va_Zof (hts _ (gv_lay w hw)) hini q1 hA, va_Oof (hs _ (gv_ex w hw)) q1 hA, vk_OFof q1 (va_eqt (hs _ (gv_ord w hw))) hA, vk_OFof q1 (va_eqtl (hs _ (gv_code w hw))) hA⟩⟩⟩
    · exact ⟨0, fun h => absurd h hw⟩
  obtain ⟨K, hK⟩ := Classical.axiomOfChoice h0
  exact ⟨K, hK⟩
theorem st_inj {s : State} {K : Nat → Nat} {A : Nat → Prop} {H : Heap} (h : ∀ w, w < 24 → va_OF "java/lang/Enum" "ordinal" "I" (.int (nI w)) (K w) A s H) : ∀ i j, i < 24 → j < 24 → K i = K j → i = j := by
  intro i j hi hj e
  obtain ⟨cf, k, x, f, cell, h1, h2, h3, h4, h5, -⟩ := h i hi
  obtain ⟨cf', k', x', f', cell', g1, g2, g3, g4, g5, -⟩ := h j hj
  rw [e] at h3
  have e1 := Option.some.inj (h1.symm.trans g1)
  have e2 := Option.some.inj (h3.symm.trans g3)
  simp only [Prod.mk.injEq] at e1
  obtain ⟨-, -, -, e4⟩ := e1
  rw [e2, e4] at h5
  have e5 := Option.some.inj (h5.symm.trans g5)
  have e6 : nI i = nI j := by injection e5
  exact (nI_eq (by omega) (by omega)).mp e6
theorem aw_T {C : FieldType} {t N : Nat} {f : Nat → Value} {A B : Nat → Prop} {s : State} {H : Heap} (h : va_T C t N f B s H) (hA : ∀ a : Nat, a < H.size → ¬ A a) : va_T C t N f A s H := by
  obtain ⟨cell, h1, h2, h3, h4, h5, h6, -⟩ := h
  exact ⟨cell, h1, h2, h3, h4, h5, h6, hA _ (Array.getElem?_eq_some_iff.mp h1).1⟩
theorem aw_O {E : String} {t : Nat} {A B : Nat → Prop} {s : State} {H : Heap} (h : va_O E t B s H) (hA : ∀ a : Nat, a < H.size → ¬ A a) : va_O E t A s H := by
  obtain ⟨cell, h1, h2, h3, -⟩ := h
  exact ⟨cell, h1, h2, h3, hA _ (Array.getElem?_eq_some_iff.mp h1).1⟩
theorem aw_OF {o n d : String} {v : Value} {t : Nat} {A B : Nat → Prop} {s : State} {H : Heap} (h : va_OF o n d v t B s H) (hA : ∀ a : Nat, a < H.size → ¬ A a) : va_OF o n d v t A s H := by
  obtain ⟨cf, k, i, f, cell, h1, h2, h3, h4, h5, -⟩ := h
  exact ⟨cf, k, i, f, cell, h1, h2, h3, h4, h5, hA _ (Array.getElem?_eq_some_iff.mp h3).1⟩
theorem aw_S {N : Nat} {len : List Nat} {byt : List (List Int32)} {adK adV bK bV : Nat → Nat} {A B : Nat → Prop} {s : State} {H : Heap} (h : vk_S N len byt adK adV B s H) (h1 : ∀ i, i < N → bK i = adK i) (h2 : ∀ i, i < N → bV i = adV i) (hA : ∀ a : Nat, a < H.size → ¬ A a) : vk_S N len byt bK bV A s H := by
  refine ⟨fun i hi => ?_, fun i j hi hj e => h.2 i j hi hj (by rw [← h1 i hi, ← h1 j hj]; exact e)⟩
  obtain ⟨q1, q2, q3, q4⟩ := h.1 i hi
  rw [h1 i hi, h2 i hi]
  exact ⟨aw_O q1 hA, aw_OF q2 hA, aw_OF q3 hA, aw_T q4 hA⟩
def st_K (E aK aV : Nat → Nat) (tA tS : Nat) : Nat → Nat := fun n => if n < 24 then E n else if n = 24 then tA else if n = 25 then tS else if n < 40 then aK (n - 30) else aV (n - 40)
theorem st_xg {args : Array Value} {s : State} (hv : (Jvm.Cond.and given_1 narrow_1).before args s = true) (hts : ∀ w ∈ lw_tbl, w.before args s = true) : ∃ K : Nat → Nat, ∀ (X : XE) (A : Nat → Prop), X.2.2.1 = K → (∀ a : Nat, a < s.heap.size → ¬ A a) → xg X A s := by
  have hs : ∀ c ∈ xgv, c.before args s = true := flat_of_before _ hv
  obtain ⟨a1, a2, a3, a4, a5, a6⟩ := gv_a1
  obtain ⟨t1, t2, t3, t4, t5, t6, t7, t8, t9, t10, t11⟩ := gv_t1
  obtain ⟨E, hE⟩ := st_enum hs hts (hts _ t5)
  have hF : ∀ a : Nat, a < s.heap.size → ¬ (fun _ : Nat => False) a := fun _ _ h => h
  have hel : ∀ j : Nat, j < 24 → (Term.elem (.static RX11 "ALL" "[LRingKeepers$Word;") (.int (Int32.ofNat j))).eval args s none [] s = some (.ref (E j)) := by
    intro j hj
    have h1 := hs _ (gv_all j hj)
    refine va_eqI (u := xtm j) ?_ (hE j hj).1
    simpa [Cond.before, Cond.holds] using h1
  obtain ⟨tA, hA1, hA2⟩ := va_Tof (args := args) (s := s) (tm := .static RX11 "ALL" "[LRingKeepers$Word;") (ty := .object RX11) (N := 24) (f := fun i => .ref (E i)) (A := fun _ => False) (by decide) (hs _ a1) (va_eqt (hs _ a2)) hel hF
  obtain ⟨tS, hS1, hS0⟩ := va_Tof (args := args) (s := s) (tm := .static RX0 "$SwitchMap$RingKeepers$Word" "[I") (ty := .int) (N := 24) (f := fun i => .int (xsw i)) (A := fun _ => False) (by decide) (hs _ a3) (va_eqt (hs _ a4)) (fun j hj => va_eqt (hs _ (gv_sw j hj))) hF
  obtain ⟨aK, aV, hS2, hS3⟩ := vk_Sof (args := args) (s := s) (N := 3) (tm := xsm) (len := [7, 4, 7]) (byt := [[32, 107, 101, 101, 112, 115, 32], [32, 102, 111, 114], [32, 119, 101, 97, 114, 115, 32]]) (A := fun _ => False) (by decide) (fun i hi => hs _ (gv_s1 i hi)) (fun i hi => hs _ (gv_s2 i hi)) (fun i hi => hs _ (gv_s3 i hi)) (fun i hi => hs _ (gv_s4 i hi)) (fun i hi j hj => hs _ (gv_s5 i hi j hj)) (fun i j hi hj hn => (gv_s6 i hi j hj hn).imp (fun h => hs _ h) (fun h => hs _ h)) hF
  refine ⟨st_K E aK aV tA tS, fun X A hX hA => ?_⟩
  have k0 : ∀ w, w < 24 → X.2.2.1 w = E w := fun w hw => by rw [hX, st_K, if_pos hw]
  have k1 : X.2.2.1 24 = tA := by rw [hX]; rfl
  have k2 : X.2.2.1 25 = tS := by rw [hX]; rfl
  have k3 : ∀ i, i < 3 → X.2.2.1 (30 + i) = aK i := fun i hi => by
    rw [hX, st_K, if_neg (by omega), if_neg (by omega), if_neg (by omega), if_pos (by omega)]
    congr 1
    omega
  have k4 : ∀ i, i < 3 → X.2.2.1 (40 + i) = aV i := fun i hi => by
    rw [hX, st_K, if_neg (by omega), if_neg (by omega), if_neg (by omega), if_neg (by omega)]
    congr 1
    omega
  refine ⟨fun w hw => ?_, fun i j hi hj e => st_inj (fun w hw => ((hE w hw).2 A hA).2.2.1) i j hi hj (by rw [← k0 i hi, ← k0 j hj]; exact e), ⟨?_, ?_⟩, ⟨?_, ?_⟩, ?_, ?_, ?_, ?_, ?_, ?_, ?_⟩
  · rw [k0 w hw]
    exact (hE w hw).2 A hA
  · rw [k1]
    exact va_Zof (hts _ t1) (hts _ t5) hA1 hA
  · rw [k1]
    obtain ⟨cell, h1, h2, h3, h4, h5, h6, -⟩ := hA2
    exact ⟨cell, h1, h2, h3, h4, h5, fun j hj => by show _ = some (Value.ref (X.2.2.1 j)); rw [k0 j hj]; exact h6 j hj, hA _ (Array.getElem?_eq_some_iff.mp h1).1⟩
  · rw [k2]
    exact va_Zof (hts _ t2) (hts _ t6) hS1 hA
  · rw [k2]
    exact aw_T hS0 hA
  · intro w hw
    obtain ⟨h1, h2⟩ := List.mem_filter.mp hw
    refine va_Nw.of ?_ (hts w h1)
    cases w <;> first | rfl | (simp [xisn] at h2)
  · exact aw_S hS2 k3 k4 hA
  · exact vk_R.of (A := args) (hts _ t9) (by rw [k3 0 (by decide)]; exact hS3 0 (by decide))
  · exact vk_R.of (A := args) (hts _ t10) (by rw [k3 1 (by decide)]; exact hS3 1 (by decide))
  · exact vk_R.of (A := args) (hts _ t11) (by rw [k3 2 (by decide)]; exact hS3 2 (by decide))
  · exact va_Zof (hts _ t3) (hts _ t7) (va_eqt (hs _ a5)) hA
  · exact va_Zqof (hts _ t4) (hts _ t8) (hs _ a6) hA
theorem xg_moved {X : XE} {A : Nat → Prop} {s U : State} (hW : s.WarmedH U.vm) (hq : ∀ q : Nat, q < s.heap.size → ¬ A q → U.heap[q]? = s.heap[q]?) (h : xg X A s) : xg X A U := by
  obtain ⟨h1, h2, ⟨h3, h4⟩, ⟨h5, h6⟩, h7, h8, h9, h10, h11, h12, h13⟩ := h
  have hv := hW.alike
  refine ⟨fun w hw => ?_, h2, ⟨(h3.kept hq).moved hv, (h4.kept hq).moved hv⟩, ⟨(h5.kept hq).moved hv, (h6.kept hq).moved hv⟩, fun w hw => ?_, ?_, h9.warm hW, h10.warm hW, h11.warm hW, (h12.kept hq).moved hv, ?_⟩
  · obtain ⟨q1, q2, q3, q4⟩ := h1 w hw
    exact ⟨(q1.kept hq).moved hv, (q2.kept hq).moved hv, (q3.kept hq).moved hv, (q4.kept hq).moved hv⟩
  · have h0 := (List.mem_filter.mp hw).2
    have h3 := h7 w hw
    cases w <;> first | exact va_Nw.warmF hW h3 | exact va_Nw.warmM hW h3 | (simp [xisn] at h0)
  · exact vk_S.moved hv ⟨fun i hi => ⟨(h8.1 i hi).1.kept hq, (h8.1 i hi).2.1.kept hq, (h8.1 i hi).2.2.1.kept hq, (h8.1 i hi).2.2.2.kept hq⟩, h8.2⟩
  · rcases h13 with g | ⟨t, g⟩
    · exact Or.inl ((g.kept hq).moved hv)
    · exact Or.inr ⟨t, (g.kept hq).moved hv⟩
theorem cw_g_moved {X : XE} {s U : State} (hW : s.WarmedH U.vm) (hq : ∀ q : Nat, q < s.heap.size → ¬ cw_A X q → U.heap[q]? = s.heap[q]?) (h : cw_g X s) : cw_g X U := by
  obtain ⟨h1, h2, h3, h4, h5⟩ := h
  exact ⟨xg_moved hW hq h1, h2.moved hW.alike, h3.moved hW.alike, h4.moved hW.alike, h5.moved hW.alike⟩
