/-! from what was built to the flat memory -/
def cw_M (T : List CN) : MM := (fun k j => match T[k]? with
  | some (.inl o) => (o.2.getD j (0, 0, 0)).2.2
  | some (.inr d) => if j < d.2.2.1 then d.2.2.2.2.2 else 0
  | none => 0, fun _ _ => 0, fun k j => match T[k]? with
  | some (.inr d) => d.2.2.2.1 + d.2.2.2.2.1 * j
  | _ => 0)
def cm_f (f : FD) (g : Nat × Nat) : Bool := f.1 == g.1 && (f.1 == 0 || f.1 == 1 || (f.1 == 2 && f.2.1 == g.2))
def cm_fs : List FD → List (Nat × Nat) → Bool
  | [], [] => true
  | f :: fs, g :: gs => cm_f f g && cm_fs fs gs
  | _, _ => false
def cm_ok (d : CN) (e : CD) : Bool := match d, e with
  | .inl o, .inl q => o.1 == q.1 && cm_fs o.2 q.2
  | .inr d, .inr q => d.1 == q.1 && d.2.1 == q.2 && (d.1 == 0 || d.1 == 1 || d.1 == 2 || d.1 == 3 || d.2.2.1 == d.2.1)
  | _, _ => false
def cm_all : List CN → List CD → Bool
  | [], [] => true
  | d :: T, e :: S => cm_ok d e && cm_all T S
  | _, _ => false
theorem cm_at : ∀ {T : List CN} {S : List CD}, cm_all T S = true → ∀ (k : Nat) (e : CD), S[k]? = some e → ∃ d, T[k]? = some d ∧ cm_ok d e = true
  | [], [], _, k, e, he => by simp at he
  | [], _ :: _, h, _, _, _ => by simp [cm_all] at h
  | _ :: _, [], h, _, _, _ => by simp [cm_all] at h
  | d :: T, e0 :: S, h, k, e, he => by
    rw [cm_all, Bool.and_eq_true] at h
    cases k with
    | zero =>
      simp only [List.getElem?_cons_zero, Option.some.injEq] at he
      exact ⟨d, rfl, by rw [← he]; exact h.1⟩
    | succ k =>
      rw [List.getElem?_cons_succ] at he
      rw [List.getElem?_cons_succ]
      exact cm_at h.2 k e he
theorem cm_fsat : ∀ {fs : List FD} {gs : List (Nat × Nat)}, cm_fs fs gs = true → fs.length = gs.length ∧ ∀ (j : Nat) (f : FD) (g : Nat × Nat), fs[j]? = some f → gs[j]? = some g → cm_f f g = true
  | [], [], _ => ⟨rfl, fun j f g h _ => by simp at h⟩
  | [], _ :: _, h => by simp [cm_fs] at h
  | _ :: _, [], h => by simp [cm_fs] at h
  | f0 :: fs, g0 :: gs, h => by
    rw [cm_fs, Bool.and_eq_true] at h
    obtain ⟨h1, h2⟩ := cm_fsat h.2
    refine ⟨by simp [h1], fun j f g hf hg => ?_⟩
    cases j with
    | zero =>
      simp only [List.getElem?_cons_zero, Option.some.injEq] at hf hg
      rw [← hf, ← hg]
      exact h.1
    | succ j =>
      rw [List.getElem?_cons_succ] at hf hg
      exact h2 j f g hf hg
theorem cm_obj {X : XE} {T : List CN} {k ci : Nat} {fs : List FD} {gs : List (Nat × Nat)} (hT : T[k]? = some (.inl (ci, fs))) (h : cm_fs fs gs = true) : fs.map (cw_f X) = gs.mapIdx (fun j g => mx_fv X (cw_M T) k j g) := by
  obtain ⟨h1, h2⟩ := cm_fsat h
  apply List.ext_getElem?
  intro j
  rw [List.getElem?_map, List.getElem?_mapIdx]
  cases hf : fs[j]? with
  | none =>
    have : gs[j]? = none := by
      rw [List.getElem?_eq_none_iff] at hf ⊢
      omega
    rw [this]
    rfl
  | some f =>
    have hj : j < gs.length := by rw [← h1]; exact (List.getElem?_eq_some_iff.mp hf).1
    rw [List.getElem?_eq_getElem hj]
    have h3 := h2 j f _ hf (List.getElem?_eq_getElem hj)
    simp only [Option.map_some, Option.some.injEq]
    generalize gs[j] = g at h3
    obtain ⟨a, b, v⟩ := f
    obtain ⟨ga, gb⟩ := g
    simp only [cm_f, Bool.and_eq_true, Bool.or_eq_true, beq_iff_eq] at h3
    obtain ⟨e1, e2⟩ := h3
    subst e1
    have hM1 : (cw_M T).1 k j = v := by
      simp only [cw_M, hT, List.getD_eq_getElem?_getD, hf, Option.getD_some]
    rcases e2 with (e2 | e2) | e2
    · subst e2
      simp only [cw_f, mx_fv, hM1]
    · subst e2
      simp only [cw_f, mx_fv, cw_M]
    · obtain ⟨e3, e4⟩ := e2
      subst e3
      subst e4
      simp only [cw_f, mx_fv]
theorem arrV_cg {cA : ClassId} {n : Nat} {f g : Nat → Value} (h : ∀ j, j < n → f j = g j) : arrV cA n f = arrV cA n g := by
  unfold arrV
  have : (fun j : Fin n => f j.val) = fun j : Fin n => g j.val := by
    funext j
    exact h j.val j.isLt
  rw [this]
theorem cm_arr {X : XE} {T : List CN} {k t n f a b : Nat} {v : Int32} (hT : T[k]? = some (.inr (t, n, f, a, b, v))) (h : t = 0 ∨ t = 1 ∨ t = 2 ∨ t = 3 ∨ f = n) : vp_cell (X.2.2.2 t) (n, cw_a X (t, n, f, a, b, v)) = vp_cell (X.2.2.2 t) (n, mx_ct X (cw_M T) k t) := by
  have e1 : (cw_M T).1 k = fun j => if j < f then v else 0 := by
    funext j
    simp only [cw_M, hT]
  have e3 : (cw_M T).2.2 k = fun j => a + b * j := by
    funext j
    simp only [cw_M, hT]
  match t, h with
  | 0, _ => simp only [cw_a, mx_ct, e1]
  | 1, _ => simp only [cw_a, mx_ct, e1]
  | 2, _ => rfl
  | 3, _ => simp only [cw_a, mx_ct, e1]
  | t + 4, h =>
    have hf : f = n := by
      rcases h with h | h | h | h | h
      · omega
      · omega
      · omega
      · omega
      · exact h
    subst hf
    simp only [cw_a, mx_ct, e3]
    show vp_cell _ (f, .inr (.inr (.inr (.inr _)))) = vp_cell _ (f, .inr (.inr (.inr (.inr _))))
    rw [vp_cell_q, vp_cell_q]
    apply arrV_cg
    intro j hj
    rw [if_pos hj]
theorem cm_P {X : XE} {T : List CN} {S : List CD} {H : Heap} (h : cm_all T S = true) (hP : va_P X.1 mx_cl (cw_ws X T) H) : va_P X.1 mx_cl (mx_ws S X (cw_M T)) H := by
  intro k q hq
  cases hS : S[k]? with
  | none =>
    simp only [mx_ws, List.getElem?_mapIdx, hS] at hq
    cases hq
  | some e =>
    rw [mx_at hS] at hq
    cases hq
    obtain ⟨d, hd, hok⟩ := cm_at h k e hS
    have h1 := hP k _ (cw_at hd)
    match d, e, hok with
    | .inl o, .inl q, hok =>
      simp only [cm_ok, Bool.and_eq_true, beq_iff_eq] at hok
      obtain ⟨oc, fs⟩ := o
      obtain ⟨qc, gs⟩ := q
      obtain ⟨e1, e2⟩ := hok
      simp only at e1 e2
      subst e1
      have h2 := cm_obj (X := X) (T := T) (k := k) hd e2
      simp only [mx_E, ← h2]
      exact h1
    | .inr d, .inr q, hok =>
      obtain ⟨t, n, f, a, b, v⟩ := d
      obtain ⟨qt, qn⟩ := q
      simp only [cm_ok, Bool.and_eq_true, Bool.or_eq_true, beq_iff_eq] at hok
      obtain ⟨⟨e1, e2⟩, e3⟩ := hok
      subst e1
      subst e2
      have h2 := cm_arr (X := X) (T := T) (k := k) hd (by omega)
      show H[X.2.1 k]? = some (vp_cell (X.2.2.2 t) (n, mx_ct X (cw_M T) k t))
      rw [← h2]
      exact h1
theorem cm_12 : cm_all (x12 2 2 2) xt = true := by decide +kernel
/-! a call with more cells made before -/
section MXG
variable {p : Program} {l : Launch} {e : Env} {R : Room} {s : State} {m : MethodId} {args : Array Value} {below : List Frame} {meth : Method} {c : Code} {H : Heap} {locs : List Loc} {cells slots : Nat} {Q : State → Prop}
variable {cc : ByteArray} {nL pc : Nat} {ls : Array Slot} {rest : List Value} {E : KE} {M : MM} {own : String} {ret : Option FieldType}
/-- a caller that knows more than the callee: what the callee may not change stays -/
theorem lw_back {A : Nat → Prop} {M' : MM} {o : Option Value} {st0 : List Value} {a : Array Value} (hS : va_S A s.heap H locs) (hA : ∀ q, E.2.2.1 q → A q) (hr : va_Run p l e R s m args below meth c H locs cells slots 0 0 (F0 m pc ls st0) rest (mx_Post E o M' a) E.2.2.1)
    (kk : ∀ (H1 : Heap) (locs : List Loc), va_P E.2.1.1 mx_cl (mx_ws E.1 E.2.1 M') H1 → va_S A s.heap H1 locs → H.size ≤ H1.size → (∀ q : Nat, q < H.size → ¬ E.2.2.1 q → H1[q]? = H[q]?) → W p l e R s m args below meth c H1 locs cells slots Q (F0 m (pc + 3) ls (o.toList ++ rest))) : W p l e R s m args below meth c H locs cells slots Q (F0 m pc ls st0) := by
  intro T hT X
  obtain ⟨v, st₀, t, T', L, h0, X', hL, e1, e2, ⟨hv, hp, hz, hk⟩, st⟩ := hr T hT X
  cases hv
  rw [h0] at hz hk
  obtain ⟨t2, a1, b1⟩ := kk T'.heap (locs ++ L) (by rw [e1]; exact hp) ⟨Nat.le_trans hS.1 (by rw [e1]; exact hz), fun q h1 h2 => by rw [e1, hk q (Nat.lt_of_lt_of_le h1 hS.1) (fun h => h2 (hA q h))]; exact hS.2.1 q h1 h2, fun q hq => by
      rcases List.mem_append.mp hq with h | h
      · exact hS.2.2 q h
      · exact hA _ (hL q h)⟩ (by rw [e1]; exact hz) (fun q h1 h2 => by rw [e1]; exact hk q h1 h2) T' rfl X'
  exact ⟨t2, st t2 a1, b1⟩
theorem lw_callV {A : Nat → Prop} {h' n index yL k ci : Nat} {y : MethodName} {yc : ByteArray} {yr : Option FieldType} {q : vw_C} {fs : List (Nat × Nat)} {As : List Value} {st0 st1 : List Value} {o : Option Value} {M' : MM} (S : CallFix p m c cc nL s args mx_wall own) (hK : va_K E.2.1.1 mx_cl (mx_tys E.2.1) s) (hG : E.2.2.2 s) (hE : mx_ok E) (hP : va_P E.2.1.1 mx_cl (mx_ws E.1 E.2.1 M) H) (hS : va_S A s.heap H locs) (hA : ∀ q, E.2.2.1 q → A q) (hA0 : ∀ q : Nat, q < s.heap.size → ¬ E.2.2.1 q → ¬ A q) (hl : ls.size = nL) (Y : mx_Y y yc yL yr n) (hR : h' + 1 ≤ R.frames ∧ 8 + (yL + 11) + 64 * h' ≤ R.locals) (hlink : Cond.methodLink own index y ∈ mx_wall) (hins : Cond.instanceMethod y ∈ mx_wall) (hsel : Cond.selects q.1 y y ∈ mx_wall) (hc : mx_cl[ci]? = some q) (hT : E.1[k]? = some (.inl (ci, fs)))
    (hy : mx_Met E l y yc yL yr h' (.ref (E.2.1.2.1 k) :: As) M o M') (hn : As.length = n) (hst : st0 = As.reverse ++ .ref (E.2.1.2.1 k) :: rest) (hs1 : o.toList ++ rest = st1) (hW : (rest.map fun v => v.category).sum ≤ 8) (hdg : decode cc pc = .ok (.invokevirtual index, 3)) (hf : cells ≤ R.cells ∧ slots ≤ R.slots)
    (kk : ∀ (H1 : Heap) (locs : List Loc), va_P E.2.1.1 mx_cl (mx_ws E.1 E.2.1 M') H1 → va_S A s.heap H1 locs → H.size ≤ H1.size → (∀ q : Nat, q < H.size → ¬ E.2.2.1 q → H1[q]? = H[q]?) → W p l e R s m args below meth c H1 locs cells slots Q (F0 m (pc + 3) ls st1)) : W p l e R s m args below meth c H locs cells slots Q (F0 m pc ls st0) := by
  have hts := S.2.2.2.2
  subst hs1
  refine lw_back (A := A) hS hA (va_runV S hy ⟨callB_of n hts (mx_good Y.1) rfl rfl rfl (hts _ Y.2.1) (hts _ hlink) Y.2.2.1 hR, hts _ hins, hts _ hsel⟩ ⟨mx_blind hE, va_recv hK hP hc (mx_obj hT), fun U hU hW => ⟨rfl, by rw [hU]; exact hP, va_K.moved hW.alike hK, hE.2 s U hW (by rw [hU]; exact hS.1) (fun q h1 h2 => by rw [hU]; exact hS.2.1 q h1 (hA0 q h1 h2)) hG⟩⟩ rfl hn hl hst (lv_room hW) hdg ⟨by omega, by omega⟩) kk
end MXG
