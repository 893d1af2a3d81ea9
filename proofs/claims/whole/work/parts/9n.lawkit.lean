/-! the law: what its start gives, its state, its rows -/
def tyl : List FieldType := [.int, .byte, .long, .boolean, .object RX9, .object RX3, .object RX8, .object RX11]
theorem st_pr {args : Array Value} {s : State} {ty : FieldType} (h : (Cond.arrayClass ty).before args s = true) (hr : ∀ cA, s.vm.findClass ("[" ++ ty.toString) = some cA → va_RA s cA ty) : ∃ cA, ArrOfT s cA ty ∧ va_RA s cA ty := by
  obtain ⟨cA, k, comp, h1, h2, h3⟩ := Cond.arrayClass_spec h
  exact ⟨cA, fun n z => ⟨fun k h => (by cases h), k, h2, comp, h3⟩, hr cA h1⟩
theorem st_ob {args : Array Value} {s : State} {C : String} (h : (Cond.arrayOver (.object C)).before args s = true) : ∃ cA, ArrOfT s cA (.object C) ∧ va_RA s cA (.object C) := by
  obtain ⟨comp, cA, k, h1, -, h2, h3, h4⟩ := Cond.arrayOver_spec h
  exact ⟨cA, fun n z => ⟨fun k h => (by cases h), k, h2, comp, h3⟩, k, comp, h2, h3, h1, h4⟩
theorem st_KK {args : Array Value} {s : State} (hts : ∀ w ∈ lw_tbl, w.before args s = true) : ∃ (D : va_G) (cA : Nat → ClassId), ∀ X : XE, X.1 = D → X.2.2.2 = cA → va_K X.1 mx_cl (mx_tys X) s := by
  have hw : ∀ w ∈ mx_wall, w.before args s = true := fun w h => hts w (List.mem_filter.mp h).1
  have h0 : ∀ c : Nat, ∃ q : ClassId × (Nat → Nat), ∀ r : vw_C, mx_cl[c]? = some r → u_Kn s r.1 r.2.1 r.2.2 q.1 q.2 := by
    intro c
    match c with
    | 0 =>
      obtain ⟨a, b, h⟩ := u_known hw cl_12.2.1 (hw _ qw_28)
      exact ⟨(a, b), fun r hr => by cases hr; exact h⟩
    | 1 =>
      obtain ⟨a, b, h⟩ := u_known hw cl_1.2.1 (hw _ qw_303)
      exact ⟨(a, b), fun r hr => by cases hr; exact h⟩
    | 2 =>
      obtain ⟨a, b, h⟩ := u_known hw cl_2.2.1 (hw _ qw_377)
      exact ⟨(a, b), fun r hr => by cases hr; exact h⟩
    | 3 =>
      obtain ⟨a, b, h⟩ := u_known hw cl_3.2.1 (hw _ qw_107)
      exact ⟨(a, b), fun r hr => by cases hr; exact h⟩
    | 4 =>
      obtain ⟨a, b, h⟩ := u_known hw cl_4.2.1 (hw _ qw_398)
      exact ⟨(a, b), fun r hr => by cases hr; exact h⟩
    | 5 =>
      obtain ⟨a, b, h⟩ := u_known hw cl_5.2.1 (hw _ qw_261)
      exact ⟨(a, b), fun r hr => by cases hr; exact h⟩
    | 6 =>
      obtain ⟨a, b, h⟩ := u_known hw cl_6.2.1 (hw _ qw_345)
      exact ⟨(a, b), fun r hr => by cases hr; exact h⟩
    | 7 =>
      obtain ⟨a, b, h⟩ := u_known hw cl_7.2.1 (hw _ qw_53)
      exact ⟨(a, b), fun r hr => by cases hr; exact h⟩
    | 8 =>
      obtain ⟨a, b, h⟩ := u_known hw cl_8.2.1 (hw _ qw_278)
      exact ⟨(a, b), fun r hr => by cases hr; exact h⟩
    | 9 =>
      obtain ⟨a, b, h⟩ := u_known hw cl_9.2.1 (hw _ qw_199)
      exact ⟨(a, b), fun r hr => by cases hr; exact h⟩
    | 10 =>
      obtain ⟨a, b, h⟩ := u_known hw cl_10.2.1 (hw _ qw_36)
      exact ⟨(a, b), fun r hr => by cases hr; exact h⟩
    | 11 =>
      obtain ⟨a, b, h⟩ := u_known hw cl_12.2.1 (hw _ qw_28)
      exact ⟨(a, b), fun r hr => by cases hr; exact h⟩
    | 12 =>
      obtain ⟨a, b, h⟩ := u_known hw cl_12.2.1 (hw _ qw_28)
      exact ⟨(a, b), fun r hr => by cases hr; exact h⟩
    | 13 =>
      obtain ⟨a, b, h⟩ := u_known hw cl_13.2.1 (hw _ qw_1355)
      exact ⟨(a, b), fun r hr => by cases hr; exact h⟩
    | n + 14 => exact ⟨(0, fun _ => 0), fun r hr => by cases hr⟩
  have h1 : ∀ t : Nat, ∃ cA : ClassId, ∀ ty : FieldType, tyl[t]? = some ty → ArrOfT s cA ty ∧ va_RA s cA ty := by
    obtain ⟨a4, a5, a6, a7, a0, a1, a2, a3⟩ := gv_ao
    intro t
    match t with
    | 0 => obtain ⟨a, h⟩ := st_pr (hts _ a0) (fun _ h => h); exact ⟨a, fun ty ht => by cases ht; exact h⟩
    | 1 => obtain ⟨a, h⟩ := st_pr (hts _ a1) (fun _ h => h); exact ⟨a, fun ty ht => by cases ht; exact h⟩
    | 2 => obtain ⟨a, h⟩ := st_pr (hts _ a2) (fun _ h => h); exact ⟨a, fun ty ht => by cases ht; exact h⟩
    | 3 => obtain ⟨a, h⟩ := st_pr (hts _ a3) (fun _ h => h); exact ⟨a, fun ty ht => by cases ht; exact h⟩
    | 4 => obtain ⟨a, h⟩ := st_ob (hts _ a4); exact ⟨a, fun ty ht => by cases ht; exact h⟩
    | 5 => obtain ⟨a, h⟩ := st_ob (hts _ a5); exact ⟨a, fun ty ht => by cases ht; exact h⟩
    | 6 => obtain ⟨a, h⟩ := st_ob (hts _ a6); exact ⟨a, fun ty ht => by cases ht; exact h⟩
    | 7 => obtain ⟨a, h⟩ := st_ob (hts _ a7); exact ⟨a, fun ty ht => by cases ht; exact h⟩
    | n + 8 => exact ⟨0, fun ty ht => by cases ht⟩
  obtain ⟨F, hF⟩ := Classical.axiomOfChoice h0
  obtain ⟨cA, hA⟩ := Classical.axiomOfChoice h1
  refine ⟨(fun c => (F c).1, fun c => (F c).2), cA, fun X hD hC => ⟨fun c r hr => by rw [hD]; exact hF c r hr, fun k q hk => ?_⟩⟩
  have key : ∃ ty, tyl[k]? = some ty ∧ q = (X.2.2.2 k, ty) := by
    match k, hk with
    | 0, hk => exact ⟨_, rfl, (Option.some.inj hk).symm⟩
    | 1, hk => exact ⟨_, rfl, (Option.some.inj hk).symm⟩
    | 2, hk => exact ⟨_, rfl, (Option.some.inj hk).symm⟩
    | 3, hk => exact ⟨_, rfl, (Option.some.inj hk).symm⟩
    | 4, hk => exact ⟨_, rfl, (Option.some.inj hk).symm⟩
    | 5, hk => exact ⟨_, rfl, (Option.some.inj hk).symm⟩
    | 6, hk => exact ⟨_, rfl, (Option.some.inj hk).symm⟩
    | 7, hk => exact ⟨_, rfl, (Option.some.inj hk).symm⟩
    | n + 8, hk => cases hk
  obtain ⟨ty, h2, h3⟩ := key
  rw [h3, hC]
  exact hA k ty h2
def lA (X : XE) (n : Nat) : Nat → Prop := fun q => X.2.1 0 ≤ q ∧ q < X.2.1 0 + n
def lE1 (X : XE) : KE := (xt, X, lA X 204, fun U => xg X (lA X 204) U)
def lE2 (X : XE) : KE := (mt, X, lA X 22, fun _ => True)
theorem lE1_ok {X : XE} (h : ∀ k, X.2.1 k = X.2.1 0 + k) : mx_ok (lE1 X) := ⟨fun M => mx_D h xt (fun k hk => by have h1 := h k; have h2 : xt.length = 204 := rfl; show X.2.1 0 ≤ X.2.1 k ∧ X.2.1 k < X.2.1 0 + 204; omega) M, fun s U hW _ hq hG => xg_moved hW hq hG⟩
theorem lE2_ok {X : XE} (h : ∀ k, X.2.1 k = X.2.1 0 + k) : mx_ok (lE2 X) := ⟨fun M => mx_D h mt (fun k hk => by have h1 := h k; have h2 : mt.length = 22 := rfl; show X.2.1 0 ≤ X.2.1 k ∧ X.2.1 k < X.2.1 0 + 22; omega) M, fun _ _ _ _ _ _ => trivial⟩
theorem lE1_x (X : XE) : xOK (lE1 X) := ⟨rfl, fun _ h => h⟩
def R_law : String := "RingKeepersLaw"
def LwS (X1 X2 : XE) (s : State) (M1 M2 : MM) (w : Int64) (H : Heap) (locs : List Loc) : Prop :=
  va_P X1.1 mx_cl (mx_ws xt X1 M1) H ∧ va_P X2.1 mx_cl (mx_ws mt X2 M2) H ∧ H[s.heap.size + 226]? = some (vp_cell (X1.2.2.2 2) (1, .inr (.inl (fun _ => w)))) ∧ va_S (fun q => s.heap.size ≤ q) s.heap H locs
def LwC (X1 X2 : XE) (p : Program) (m : MethodId) (c : Code) (s : State) (b L : Nat) (xs : Nat → Int32) : Prop :=
  CallFix p m c code 7 s #[Value.ref b] mx_wall R_law ∧ va_K X1.1 mx_cl (mx_tys X1) s ∧ va_K X2.1 mx_cl (mx_tys X2) s ∧ xg X1 (lA X1 204) s ∧ (∀ k, X1.2.1 k = s.heap.size + k) ∧ (∀ k, X2.2.1 k = s.heap.size + 204 + k) ∧ va_X b L xs s s.heap ∧ b < s.heap.size ∧ L ≤ 3072
theorem mx_wsat {S : List CD} {X : XE} {M : MM} {k : Nat} {q : Nat × va_E} (h : (mx_ws S X M)[k]? = some q) : q.1 = X.2.1 k ∧ k < S.length := by
  simp only [mx_ws, List.getElem?_mapIdx] at h
  cases hT : S[k]? with
  | none => rw [hT] at h; cases h
  | some d =>
    rw [hT] at h
    cases h
    exact ⟨rfl, (List.getElem?_eq_some_iff.mp hT).1⟩
section LAW
variable {X1 X2 : XE} {M1 M2 M' : MM} {w : Int64} {p : Program} {l : Launch} {e : Env} {s : State} {m : MethodId} {below : List Frame} {meth : Method} {c : Code} {H : Heap} {locs : List Loc} {cells slots : Nat} {Q : State → Prop}
variable {pc b L : Nat} {xs : Nat → Int32} {ls : Array Slot} {rest : List Value}
theorem lw_c1 (C : LwC X1 X2 p m c s b L xs) (hM : LwS X1 X2 s M1 M2 w H locs) {h' n index yL : Nat} {y : MethodName} {yc : ByteArray} {yr : Option FieldType} {As st0 st1 : List Value} {o : Option Value} (hl : ls.size = 7) (Y : mx_Y y yc yL yr n) (hR : h' + 1 ≤ 2048 ∧ 8 + (yL + 11) + 64 * h' ≤ 84000) (hlink : Cond.methodLink R_law index y ∈ mx_wall) (hins : Cond.instanceMethod y ∈ mx_wall) (hsel : Cond.selects RX12 y y ∈ mx_wall)
    (hy : mx_Met (lE1 X1) l y yc yL yr h' (.ref (X1.2.1 0) :: As) M1 o M') (hn : As.length = n) (hst : st0 = As.reverse ++ .ref (X1.2.1 0) :: rest) (hs1 : o.toList ++ rest = st1) (hW : (rest.map fun v => v.category).sum ≤ 8) (hdg : decode code pc = .ok (.invokevirtual index, 3)) (hf : cells ≤ 601024 ∧ slots ≤ 7293034)
    (kk : ∀ (H : Heap) (locs : List Loc), LwS X1 X2 s M' M2 w H locs → W p l e room_1 s m #[Value.ref b] below meth c H locs cells slots Q (F0 m (pc + 3) ls st1)) : W p l e room_1 s m #[Value.ref b] below meth c H locs cells slots Q (F0 m pc ls st0) := by
  obtain ⟨S, hK1, hK2, hG, hx1, hx2, -, -, -⟩ := C
  obtain ⟨hP1, hP2, hO, hS⟩ := hM
  have hx : ∀ k, X1.2.1 k = X1.2.1 0 + k := fun k => by have := hx1 k; have := hx1 0; omega
  have h10 := hx1 0
  refine lw_callV (E := lE1 X1) (A := fun q => s.heap.size ≤ q) (k := 0) (ci := 12) S hK1 hG (lE1_ok hx) hP1 hS (fun q hq => by have : X1.2.1 0 ≤ q := hq.1; show s.heap.size ≤ q; omega) (fun q h1 _ h2 => by have : s.heap.size ≤ q := h2; omega) hl Y hR hlink hins hsel (q := (RX12, TX12, 19)) rfl (xt_0 (lE1_x X1)) hy hn hst hs1 hW hdg hf (fun H1 locs1 hP hS1 hz hk => kk H1 locs1 ⟨hP, ?_, ?_, hS1⟩)
  · refine hP2.kept (fun k q hq => hk q.1 ((hP2 k q hq).lt) ?_)
    have h1 := mx_wsat hq
    have h2 := hx2 k
    rw [h1.1]
    intro h3
    have : X1.2.1 0 ≤ X2.2.1 k ∧ X2.2.1 k < X1.2.1 0 + 204 := h3
    omega
  · rw [hk _ ((Array.getElem?_eq_some_iff.mp hO).1) (fun h3 => by
      have : X1.2.1 0 ≤ s.heap.size + 226 ∧ s.heap.size + 226 < X1.2.1 0 + 204 := h3
      omega)]
    exact hO
theorem lw_c2 (C : LwC X1 X2 p m c s b L xs) (hM : LwS X1 X2 s M1 M2 w H locs) {h' n index yL : Nat} {y : MethodName} {yc : ByteArray} {yr : Option FieldType} {As st0 st1 : List Value} {o : Option Value} (hl : ls.size = 7) (Y : mx_Y y yc yL yr n) (hR : h' + 1 ≤ 2048 ∧ 8 + (yL + 11) + 64 * h' ≤ 84000) (hlink : Cond.methodLink R_law index y ∈ mx_wall) (hins : Cond.instanceMethod y ∈ mx_wall) (hsel : Cond.selects RX13 y y ∈ mx_wall)
    (hy : mx_Met (lE2 X2) l y yc yL yr h' (.ref (X2.2.1 0) :: As) M2 o M') (hn : As.length = n) (hst : st0 = As.reverse ++ .ref (X2.2.1 0) :: rest) (hs1 : o.toList ++ rest = st1) (hW : (rest.map fun v => v.category).sum ≤ 8) (hdg : decode code pc = .ok (.invokevirtual index, 3)) (hf : cells ≤ 601024 ∧ slots ≤ 7293034)
    (kk : ∀ (H : Heap) (locs : List Loc), LwS X1 X2 s M1 M' w H locs → W p l e room_1 s m #[Value.ref b] below meth c H locs cells slots Q (F0 m (pc + 3) ls st1)) : W p l e room_1 s m #[Value.ref b] below meth c H locs cells slots Q (F0 m pc ls st0) := by
  obtain ⟨S, hK1, hK2, hG, hx1, hx2, -, -, -⟩ := C
  obtain ⟨hP1, hP2, hO, hS⟩ := hM
  have hx : ∀ k, X2.2.1 k = X2.2.1 0 + k := fun k => by have := hx2 k; have := hx2 0; omega
  have h10 := hx2 0
  refine lw_callV (E := lE2 X2) (A := fun q => s.heap.size ≤ q) (k := 0) (ci := 13) S hK2 trivial (lE2_ok hx) hP2 hS (fun q hq => by have : X2.2.1 0 ≤ q := hq.1; show s.heap.size ≤ q; omega) (fun q h1 _ h2 => by have : s.heap.size ≤ q := h2; omega) hl Y hR hlink hins hsel (q := (RX13, TX13, 52)) rfl (mt_0 (E := lE2 X2) rfl) hy hn hst hs1 hW hdg hf (fun H1 locs1 hP hS1 hz hk => kk H1 locs1 ⟨?_, hP, ?_, hS1⟩)
  · refine hP1.kept (fun k q hq => hk q.1 ((hP1 k q hq).lt) ?_)
    have h1 := mx_wsat hq
    have h2 := hx1 k
    have h4 : xt.length = 204 := rfl
    rw [h1.1]
    intro h3
    have : X2.2.1 0 ≤ X1.2.1 k ∧ X1.2.1 k < X2.2.1 0 + 22 := h3
    omega
  · rw [hk _ ((Array.getElem?_eq_some_iff.mp hO).1) (fun h3 => by
      have : X2.2.1 0 ≤ s.heap.size + 226 ∧ s.heap.size + 226 < X2.2.1 0 + 22 := h3
      omega)]
    exact hO
theorem lw_arg (C : LwC X1 X2 p m c s b L xs) (hM : LwS X1 X2 s M1 M2 w H locs) {i k : Nat} {z : Int} {lr : List (Nat × Value)} (hi : i + k < L) (hl : lv_has ls 7 ((4, .int (nI i)) :: (0, .ref b) :: lr)) (hk : Int32.ofInt z = nI k) (d1 : decode code pc = .ok (.aload_n 0, 1)) (d2 : decode code (pc + 1) = .ok (.iload 4, 2)) (d3 : decode code (pc + 3) = .ok (.iconst z, 1)) (d4 : decode code (pc + 4) = .ok (.iadd, 1)) (d5 : decode code (pc + 5) = .ok (.iaload, 1))
    (kk : W p l e room_1 s m #[Value.ref b] below meth c H locs cells slots Q (F0 m (pc + 6) ls (.int (xs (i + k)) :: rest))) : W p l e room_1 s m #[Value.ref b] below meth c H locs cells slots Q (F0 m pc ls rest) := by
  obtain ⟨⟨hx, hb, hml, hown, hts⟩, hK1, hK2, hG, hx1, hx2, hX, hbl, hL⟩ := C
  refine lv_aload_n hx hb d1 rfl (lv_at hl 1 rfl) ?_
  refine lv_iload hx hb d2 (lv_at hl 0 rfl) ?_
  refine lv_iconst (v := nI k) hx hb d3 hk ?_
  refine lv_iadd hx hb d4 ?_
  rw [nI_add]
  refine va_sld (A := fun q => s.heap.size ≤ q) hx hb hX hbl (fun h => by have : s.heap.size ≤ b := h; omega) hM.2.2.2 (vp_in_nI hi (by omega)) d5 ?_
  rw [nI_clamp (by omega)]
  exact kk
end LAW
