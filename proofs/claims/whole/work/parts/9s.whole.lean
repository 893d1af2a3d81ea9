/-! the law: from its entry to its loop -/
theorem bl_12 {X : XE} : ∀ j, j < 19 → defaultValue (tyX12 j) = vp_V ((([(3, 0, 0), (3, 0, 0), (3, 0, 0), (3, 0, 0), (3, 0, 0), (3, 0, 0), (3, 0, 0), (3, 0, 0), (3, 0, 0), (3, 0, 0), (3, 0, 0), (3, 0, 0), (3, 0, 0), (3, 0, 0), (3, 0, 0), (3, 0, 0), (3, 0, 0), (3, 0, 0), (0, 0, 0)] : List FD)).map (cw_f X)) j
  | 0, _ => rfl
  | 1, _ => rfl
  | 2, _ => rfl
  | 3, _ => rfl
  | 4, _ => rfl
  | 5, _ => rfl
  | 6, _ => rfl
  | 7, _ => rfl
  | 8, _ => rfl
  | 9, _ => rfl
  | 10, _ => rfl
  | 11, _ => rfl
  | 12, _ => rfl
  | 13, _ => rfl
  | 14, _ => rfl
  | 15, _ => rfl
  | 16, _ => rfl
  | 17, _ => rfl
  | 18, _ => rfl
  | n + 19, h => absurd h (by omega)
theorem qw_27 : (Jvm.Cond.classLink "RingKeepersLaw" (8 : Nat) "RingKeepers") ∈ mx_wall := mx_w 211 (by decide +kernel) (by decide +kernel)
theorem qw_29 : (Jvm.Cond.methodLink "RingKeepersLaw" (18 : Nat) ({ cls := "RingKeepers", name := "<init>", desc := "()V" } : Jvm.MethodName)) ∈ mx_wall := mx_w 213 (by decide +kernel) (by decide +kernel)
theorem qw_1361 : (Jvm.Cond.classLink "RingKeepersLaw" (19 : Nat) "RingKeepersModel") ∈ mx_wall := mx_w 1545 (by decide +kernel) (by decide +kernel)
theorem qw_1362 : (Jvm.Cond.methodLink "RingKeepersLaw" (21 : Nat) ({ cls := "RingKeepersModel", name := "<init>", desc := "()V" } : Jvm.MethodName)) ∈ mx_wall := mx_w 1546 (by decide +kernel) (by decide +kernel)
theorem lw_ctor {p : Program} {l : Launch} {e : Env} {R : Room} {s : State} {m : MethodId} {args : Array Value} {below : List Frame} {meth : Method} {c : Code} {H : Heap} {locs : List Loc} {cells slots mc ms pc : Nat} {Q : State → Prop} {ls : Array Slot} {st0 rest : List Value} {Qa : State → Outcome → State → Prop} {free : Addr → Prop} (hr : va_Run p l e R s m args below meth c H locs cells slots mc ms (F0 m pc ls st0) rest Qa free)
    (kk : ∀ (st t : State) (v : Option Value) (L : List Loc), st.heap = H → (∀ q ∈ L, free q.base) → Qa st (.returned v) t → W p l e R s m args below meth c t.heap (locs ++ L) (cells + mc) (slots + ms) Q (F0 m (pc + 3) ls (v.toList ++ rest))) : W p l e R s m args below meth c H locs cells slots Q (F0 m pc ls st0) := by
  intro T hT Z
  obtain ⟨v, st₀, t, T2, L, h0, Z', hL, e1, e2, hq, st⟩ := hr T hT Z
  obtain ⟨t2, a1, b1⟩ := kk st₀ t v L h0 hL hq T2 e1 Z'
  exact ⟨t2, st t2 a1, b1⟩
theorem cw_one {X : XE} {d : CN} {H : Heap} (h : va_at X.1 mx_cl (X.2.1 0, cw_E X d) H) : va_P X.1 mx_cl (cw_ws X [d]) H := by
  intro k q hq
  have h1 : cw_ws X [d] = [(X.2.1 0, cw_E X d)] := rfl
  rw [h1] at hq
  have hz : k < 1 := (List.getElem?_eq_some_iff.mp hq).1
  rw [show k = 0 by omega] at hq
  cases hq
  exact h
set_option maxRecDepth 100000 in
theorem whole_start0 {p : Program} {e : Env} {s : State} {m : MethodId} {below : List Frame} {meth : Method} {c : Code} (l : Launch) {b L : Nat} {xs : Nat → Int32} (hL : L ≤ 3072) (C0 : lw_At p s m meth c b L xs) (h45 : ∀ X1 X2 : XE, LwC X1 X2 p m c s b L xs → LwCase X1 X2 p l e s m below meth c b L (lw_Z below #[Value.ref b] s) 336 ∧ LwCase X1 X2 p l e s m below meth c b L (lw_Z below #[Value.ref b] s) 404) : W p l e room_1 s m #[Value.ref b] below meth c s.heap [] 0 0 (lw_Z below #[Value.ref b] s) (entryFrame m ([Value.ref b] : List Value).toArray 7) := by
  obtain ⟨hx, hb, hr, hml, hown, hts, hXs, hbl, hlocks, hgv⟩ := C0
  obtain ⟨K, hKg⟩ := st_xg hgv hts
  obtain ⟨D, cA, hKK⟩ := st_KK hts
  have hw : ∀ w ∈ mx_wall, w.before #[Value.ref b] s = true := fun w h => hts w (List.mem_filter.mp h).1
  have S : CallFix p m c code 7 s #[Value.ref b] mx_wall R_law := ⟨hx, hb, hml, hown, hw⟩
  have hE1 : ∃ X1 : XE, X1 = (D, fun k => s.heap.size + k, K, cA) := ⟨_, rfl⟩
  obtain ⟨X1, hX1⟩ := hE1
  have hE2 : ∃ X2 : XE, X2 = (D, fun k => s.heap.size + 204 + k, K, cA) := ⟨_, rfl⟩
  obtain ⟨X2, hX2⟩ := hE2
  have a1 : ∀ k, X1.2.1 k = s.heap.size + k := fun k => by rw [hX1]
  have a2 : ∀ k, X2.2.1 k = s.heap.size + 204 + k := fun k => by rw [hX2]
  have hK1 := hKK X1 (by rw [hX1]) (by rw [hX1])
  have hK2 := hKK X2 (by rw [hX2]) (by rw [hX2])
  have a10 := a1 0
  have a20 := a2 0
  have hA1 : ∀ a : Nat, a < s.heap.size → ¬ cw_A X1 a := fun a h h2 => by have : X1.2.1 0 ≤ a := h2; omega
  obtain ⟨v4, v5, v6, v7, -⟩ := gv_ao
  have hG1 : cw_g X1 s := ⟨hKg X1 _ (by rw [hX1]) hA1, va_AO.of (hts _ v4), va_AO.of (hts _ v5), va_AO.of (hts _ v6), va_AO.of (hts _ v7)⟩
  have k1 : cw_ok X1 (cw_g X1) := ⟨fun k => by rw [a1 k]; omega, fun s U hW _ hq hG => cw_g_moved hW hq hG⟩
  have k2 : cw_ok X2 (fun _ => True) := ⟨fun k => by rw [a2 k]; omega, fun _ _ _ _ _ _ => trivial⟩
  have C : LwC X1 X2 p m c s b L xs := ⟨S, hK1, hK2, hKg X1 _ (by rw [hX1]) (fun a h h2 => by have : X1.2.1 0 ≤ a := h2.1; omega), a1, a2, hXs, hbl, hL⟩
  have hl := lv_entry [Value.ref b] (n := 7) (Nat.le_of_ble_eq_true rfl)
  rw [lg_entry_eq]
  have hl : lv_has ((lg_sl [Value.ref b] ++ List.replicate (7 - (lg_sl [Value.ref b]).length) Slot.unset).toArray) 7 [(0, .ref b)] := hl
  generalize ((lg_sl [Value.ref b] ++ List.replicate (7 - (lg_sl [Value.ref b]).length) Slot.unset).toArray) = ls at hl
  have n12 := hK1.1 12 _ rfl
  have n13 := hK2.1 13 _ rfl
  refine W.newcK hx hb hown (hw _ qw_27) (hw _ qw_28) (hw _ qw_1) rfl dL_law_0 (by decide) (by decide) n12.2.1 rfl fun H1 kC hkC e1 z1 o1 => ?_
  have a11 : X1.2.1 0 = s.heap.size := by omega
  have hP1 : va_P X1.1 mx_cl (cw_ws X1 [.inl (12, [(3, 0, 0), (3, 0, 0), (3, 0, 0), (3, 0, 0), (3, 0, 0), (3, 0, 0), (3, 0, 0), (3, 0, 0), (3, 0, 0), (3, 0, 0), (3, 0, 0), (3, 0, 0), (3, 0, 0), (3, 0, 0), (3, 0, 0), (3, 0, 0), (3, 0, 0), (3, 0, 0), (0, 0, 0)])]) H1 := cw_one (by
    refine ⟨_, cl_12.1, ?_⟩
    show t_OB (X1.2.1 0) _ _ _ H1 _
    rw [a11]
    exact (u_born tyX12 hw cl_12.2.1 n12 hkC e1 cl_12.2.2.1).to bl_12)
  have hM1 : cw_H X1 s [.inl (12, [(3, 0, 0), (3, 0, 0), (3, 0, 0), (3, 0, 0), (3, 0, 0), (3, 0, 0), (3, 0, 0), (3, 0, 0), (3, 0, 0), (3, 0, 0), (3, 0, 0), (3, 0, 0), (3, 0, 0), (3, 0, 0), (3, 0, 0), (3, 0, 0), (3, 0, 0), (3, 0, 0), (0, 0, 0)])] H1 [] 1 := ⟨hP1, ⟨by omega, fun q h1 _ => o1 q h1, fun _ h => by cases h⟩, by rw [a11]; rfl, by decide⟩
  show W p l e room_1 s m #[Value.ref b] below meth c H1 [] (0 + 1) (0 + 19) _ (F0 m 3 ls [.ref s.heap.size])
  rw [← a11]
  refine lv_dup hx hb dL_law_3 rfl ?_
  refine lw_ctor (va_runI (R := room_1) (b := X1.2.1 0) (As := []) S (kX12_init (l := l) k1) ⟨callB_of 0 hw (mx_good yo_X12_init.1) rfl rfl rfl (hw _ yo_X12_init.2.1) (hw _ qw_29) yo_X12_init.2.2.1 (by decide), rfl, hw _ qw_30⟩ ⟨cw_blind k1, cw_pre hK1 hG1 k1 hM1 (by rw [a11]; exact z1)⟩ rfl rfl hl.1 rfl (lv_room (Nat.le_of_ble_eq_true rfl)) dL_law_4 ⟨by decide, by decide⟩) (fun st t v LL hst hLL hq => ?_)
  obtain ⟨hv, hp, hz, hk⟩ := hq
  cases hv
  rw [hst] at hz hk
  refine va_forget (fun q hq => by have : X1.2.1 0 ≤ q.base := hLL q hq; omega) ?_
  refine cw_W fun hz2 => ?_
  generalize t.heap = H2 at hp hz hk hz2
  have hkk : ∀ q : Nat, q < s.heap.size → H2[q]? = s.heap[q]? := fun q h1 => by rw [hk q (by omega) (hA1 q h1), o1 q h1]
  have hM2 : cw_H X1 s (x12 2 2 2) H2 [] 204 := ⟨hp, ⟨by omega, fun q h1 _ => hkk q h1, fun _ h => by cases h⟩, by rw [a11]; rfl, by decide⟩
  have hs2 : H2.size = s.heap.size + 204 := (cw_size k1 hM2 hz2).trans (by rw [a11]; rfl)
  have hPX : va_P X1.1 mx_cl (mx_ws xt X1 X0) H2 := cm_P cm_12 hp
  refine lv_astore_n (lv' := [(1, .ref (X1.2.1 0)), (0, .ref b)]) hx hb dL_law_7 rfl hl (by decide) rfl (fun ls hl => ?_)
  refine W.newcK hx hb hown (hw _ qw_1361) (hw _ qw_1355) (hw _ qw_14) rfl dL_law_8 (by decide) (by decide) n13.2.1 hs2 fun H3 kC3 hkC3 e3 z3 o3 => ?_
  have a21 : X2.2.1 0 = s.heap.size + 204 := by omega
  have hP3 : va_P X2.1 mx_cl (cw_ws X2 [.inl (13, [(0, 0, 0), (3, 0, 0), (0, 0, 0), (0, 0, 0), (0, 0, 0), (0, 0, 0), (3, 0, 0), (3, 0, 0), (3, 0, 0), (3, 0, 0), (3, 0, 0), (0, 0, 0), (0, 0, 0), (0, 0, 0), (0, 0, 0), (0, 0, 0), (0, 0, 0), (1, 0, 0), (0, 0, 0), (0, 0, 0), (0, 0, 0), (3, 0, 0), (3, 0, 0), (0, 0, 0), (3, 0, 0), (3, 0, 0), (0, 0, 0), (3, 0, 0), (3, 0, 0), (0, 0, 0), (0, 0, 0), (0, 0, 0), (0, 0, 0), (3, 0, 0), (3, 0, 0), (0, 0, 0), (3, 0, 0), (0, 0, 0), (0, 0, 0), (0, 0, 0), (3, 0, 0), (0, 0, 0), (3, 0, 0), (0, 0, 0), (0, 0, 0), (0, 0, 0), (0, 0, 0), (0, 0, 0), (3, 0, 0), (3, 0, 0), (3, 0, 0), (3, 0, 0)])]) H3 := cw_one (by
    refine ⟨_, cl_13.1, ?_⟩
    show t_OB (X2.2.1 0) _ _ _ H3 _
    rw [a21]
    exact (u_born tyX13 hw cl_13.2.1 n13 hkC3 e3 cl_13.2.2.1).to bl_13)
  have hPX3 : va_P X1.1 mx_cl (mx_ws xt X1 X0) H3 := hPX.kept (fun k q hq => o3 q.1 (by have := (hPX k q hq).lt; omega))
  show W p l e room_1 s m #[Value.ref b] below meth c H3 [] (0 + 1 + 203 + 1) (0 + 19 + 8889 + 52) _ (F0 m 11 ls [.ref (s.heap.size + 204)])
  rw [← a21]
  refine lv_dup hx hb dL_law_11 rfl ?_
  obtain ⟨q0, hq0, hInv⟩ := Inv0
  refine lw_ctor (va_runI (R := room_1) (b := X2.2.1 0) (As := []) S (kX13_init (l := l) k2 hq0) ⟨callB_of 0 hw (mx_good yo_X13_init.1) rfl rfl rfl (hw _ yo_X13_init.2.1) (hw _ qw_1362) yo_X13_init.2.2.1 (by decide), rfl, hw _ qw_1363⟩ ⟨cw_blind k2, fun U hU hW => ⟨rfl, by rw [hU]; exact hP3, by rw [hU, a21]; exact z3, va_K.moved hW.alike hK2, trivial⟩⟩ rfl rfl hl.1 rfl (lv_room (Nat.le_of_ble_eq_true rfl)) dL_law_12 ⟨by decide, by decide⟩) (fun st4 t4 v4 LL4 hst4 hLL4 hq4 => ?_)
  obtain ⟨hv4, hp4, hz4, hk4⟩ := hq4
  cases hv4
  rw [hst4] at hz4 hk4
  refine va_forget (fun q hq => by have : X2.2.1 0 ≤ q.base := hLL4 q hq; omega) ?_
  refine cw_W fun hz5 => ?_
  generalize t4.heap = H4 at hp4 hz4 hk4 hz5
  have hk5 : ∀ q : Nat, q < s.heap.size + 204 → H4[q]? = H2[q]? := fun q h1 => by
    rw [hk4 q (by omega) (fun h2 => by have : X2.2.1 0 ≤ q := h2; omega), o3 q h1]
  have hs4 : H4.size = s.heap.size + 226 := by
    have h1 := (hp4 21 _ (mx_at (T := mt) (k := 21) (d := .inr (3, 2)) rfl)).lt
    have h2 : X2.2.1 21 < H4.size := h1
    have h3 := a2 21
    have h4 : H4.size ≤ s.heap.size + 226 := hz5
    omega
  have hPX4 : va_P X1.1 mx_cl (mx_ws xt X1 X0) H4 := hPX.kept (fun k q hq => hk5 q.1 (by have := (hPX k q hq).lt; omega))
  refine lv_astore_n (lv' := [(2, .ref (X2.2.1 0)), (1, .ref (X1.2.1 0)), (0, .ref b)]) hx hb dL_law_15 rfl hl (by decide) rfl (fun ls hl => ?_)
  refine lv_iconst (v := nI 1) hx hb dL_law_16 (by decide) ?_
  refine va_newaK (atype := .long) hx hb (hw _ qw_105) rfl dL_law_17 rfl (nI_pos (by decide)) (nI_clamp (by decide)) (by decide) (by decide) (by decide) hs4 fun H5 cB e5 z5 o5 hAr hNm => ?_
  have hcB : X1.2.2.2 2 = cB := Option.some.inj (((hK1.2 2 _ rfl).2 : s.vm.findClass ("[" ++ FieldType.long.toString) = some (X1.2.2.2 2)).symm.trans hNm)
  have hLS : LwS X1 X2 s X0 (m0l 54 q0) 0 H5 [] := by
    refine ⟨hPX4.kept (fun k q hq => o5 q.1 (by have := (hPX4 k q hq).lt; omega)), hp4.kept (fun k q hq => o5 q.1 (by have := (hp4 k q hq).lt; omega)), ?_, by omega, fun q h1 _ => ?_, fun _ h => by cases h⟩
    · rw [hcB]
      exact e5
    · rw [o5 q (by omega), hk5 q (by omega), hkk q h1]
  show W p l e room_1 s m #[Value.ref b] below meth c H5 [] 227 14900 _ (F0 m 19 ls [.ref (s.heap.size + 226)])
  refine lv_astore_n (lv' := [(3, .ref (s.heap.size + 226)), (2, .ref (X2.2.1 0)), (1, .ref (X1.2.1 0)), (0, .ref b)]) hx hb dL_law_19 rfl hl (by decide) rfl (fun ls hl => ?_)
  refine lv_iconst (v := nI 0) hx hb dL_law_20 (by decide) ?_
  refine lv_istore (lv' := [(4, .int (nI 0)), (3, .ref (s.heap.size + 226)), (2, .ref (X2.2.1 0)), (1, .ref (X1.2.1 0)), (0, .ref b)]) hx hb dL_law_21 hl (by decide) rfl (fun ls hl => ?_)
  exact lw_loop C hr hlocks (h45 X1 X2 C).1 (h45 X1 X2 C).2 512 0 0 rfl (by omega) (by omega) H5 [] ls X0 (m0l 54 q0) 0 0 0 hInv hLS (lv_sub hl [0, 4, 3, 2, 1] rfl)

