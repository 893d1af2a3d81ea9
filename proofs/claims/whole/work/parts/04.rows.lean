/-! rows over the flat memory -/
section MXR
variable {p : Program} {l : Launch} {e : Env} {R : Room} {s : State} {m : MethodId} {args : Array Value} {below : List Frame} {meth : Method} {c : Code} {H : Heap} {locs : List Loc} {cells slots : Nat} {Q : State → Prop}
variable {cc : ByteArray} {nL pc : Nat} {ls : Array Slot} {rest : List Value} {E : KE} {M : MM} {own : String} {ret : Option FieldType}
theorem mx_obj {k ci : Nat} {fs : List (Nat × Nat)} (hT : E.1[k]? = some (.inl (ci, fs))) : (mx_ws E.1 E.2.1 M)[k]? = some (E.2.1.2.1 k, .inr (ci, fs.mapIdx (fun j f => mx_fv E.2.1 M k j f))) := mx_at hT
theorem mx_ari {k t n : Nat} (hT : E.1[k]? = some (.inr (t, n))) (ht : mx_ct E.2.1 M k t = .inl (M.1 k)) : (mx_ws E.1 E.2.1 M)[k]? = some (E.2.1.2.1 k, .inl (E.2.1.2.2.2 t, n, .inl (M.1 k))) := by
  rw [mx_at hT, ← ht]
  rfl
theorem mx_arl {k n : Nat} (hT : E.1[k]? = some (.inr (2, n))) : (mx_ws E.1 E.2.1 M)[k]? = some (E.2.1.2.1 k, .inl (E.2.1.2.2.2 2, n, .inr (.inl (M.2.1 k)))) := mx_at hT
theorem mx_arr {k t n : Nat} (hT : E.1[k]? = some (.inr (t + 4, n))) : (mx_ws E.1 E.2.1 M)[k]? = some (E.2.1.2.1 k, .inl (E.2.1.2.2.2 (t + 4), n, .inr (.inr (.inr (.inr (fun i => some (mx_rad E.2.1 (t + 4) (M.2.2 k i)))))))) := mx_at hT
theorem mx_get (C : mx_C E p m c cc nL s args own meth ret) (hM : mx_H E s M H locs) {ci N k j index : Nat} {Cn : String} {TT : u_T} {ty : Nat → FieldType} (hc : mx_Cl ci Cn TT N ty) {fs : List (Nat × Nat)} (hT : E.1[k]? = some (.inl (ci, fs))) {f : Nat × Nat} (hf : fs[j]? = some f) (hj : j < N) (hlink : Cond.fieldLink own index (TT j).1 (TT j).2.1 (TT j).2.2.1 ∈ mx_wall) (hdg : decode cc pc = .ok (.getfield index, 3))
    (kk : W p l e R s m args below meth c H locs cells slots Q (F0 m (pc + 3) ls (mx_fv E.2.1 M k j f :: rest))) : W p l e R s m args below meth c H locs cells slots Q (F0 m pc ls (.ref (E.2.1.2.1 k) :: rest)) := by
  obtain ⟨⟨hx, hb, hml, hown, hts⟩, hK, hG, hE, hlo, hr⟩ := C
  exact va_get hx hb hts hc.2.1 hown hK hM.1 k (mx_obj hT) hc.1 j hj (hts _ hlink) (fun _ h => h) (by simp [List.getElem?_mapIdx, hf]) hdg kk
theorem mx_getN (C : mx_C E p m c cc nL s args own meth ret) (hM : mx_H E s M H locs) {ci N k j index : Nat} {Cn host : String} {TT : u_T} {ty : Nat → FieldType} (hc : mx_Cl ci Cn TT N ty) {fs : List (Nat × Nat)} (hT : E.1[k]? = some (.inl (ci, fs))) {f : Nat × Nat} (hf : fs[j]? = some f) (hj : j < N) (hlink : va_Nw (.fieldLinkNest own index (TT j).1 (TT j).2.1 (TT j).2.2.1 host) s) (hdg : decode cc pc = .ok (.getfield index, 3))
    (kk : W p l e R s m args below meth c H locs cells slots Q (F0 m (pc + 3) ls (mx_fv E.2.1 M k j f :: rest))) : W p l e R s m args below meth c H locs cells slots Q (F0 m pc ls (.ref (E.2.1.2.1 k) :: rest)) := by
  obtain ⟨⟨hx, hb, hml, hown, hts⟩, hK, hG, hE, hlo, hr⟩ := C
  exact va_getN hx hb hts hc.2.1 hown hK hM.1 k (mx_obj hT) hc.1 j hj (va_Nw.use rfl hlink) (fun _ h => h) (by simp [List.getElem?_mapIdx, hf]) hdg kk
theorem mx_puti (C : mx_C E p m c cc nL s args own meth ret) (hM : mx_H E s M H locs) {ci N k j index u : Nat} {Cn : String} {TT : u_T} {ty : Nat → FieldType} (hc : mx_Cl ci Cn TT N ty) {fs : List (Nat × Nat)} (hT : E.1[k]? = some (.inl (ci, fs))) (hf : fs[j]? = some (0, u)) (hj : j < N) (hlink : Cond.fieldLink own index (TT j).1 (TT j).2.1 (TT j).2.2.1 ∈ mx_wall) (hfin : (TT j).2.2.2 = false) {v : Int32} (hn : narrow (ty j) (.int v) = .int v) (hfit : fits (ty j) (.int v) = true) (hdg : decode cc pc = .ok (.putfield index, 3))
    (kk : ∀ (H : Heap) (locs : List Loc), mx_H E s (mx_si M k j v) H locs → W p l e R s m args below meth c H locs cells slots Q (F0 m (pc + 3) ls rest)) : W p l e R s m args below meth c H locs cells slots Q (F0 m pc ls (.int v :: .ref (E.2.1.2.1 k) :: rest)) := by
  obtain ⟨⟨hx, hb, hml, hown, hts⟩, hK, hG, hE, hlo, hr⟩ := C
  refine va_put hx hb hts hc.2.1 ty hc.2.2.1 hc.2.2.2 hown hK hM.1 (hE.1 M) hM.2 k (mx_obj hT) hc.1 j hj (hts _ hlink) (fun _ h => h) hfin (hc.2.2.1 j hj) hn hfit (by simpa using (List.getElem?_eq_some_iff.mp hf).1) hdg (fun H1 locs1 hP hD hS => kk H1 locs1 ⟨?_, hS⟩)
  rw [mx_fi hf, mx_setI hT] at hP
  exact hP
theorem mx_putl (C : mx_C E p m c cc nL s args own meth ret) (hM : mx_H E s M H locs) {ci N k j index u : Nat} {Cn : String} {TT : u_T} {ty : Nat → FieldType} (hc : mx_Cl ci Cn TT N ty) {fs : List (Nat × Nat)} (hT : E.1[k]? = some (.inl (ci, fs))) (hf : fs[j]? = some (1, u)) (hj : j < N) (hlink : Cond.fieldLink own index (TT j).1 (TT j).2.1 (TT j).2.2.1 ∈ mx_wall) (hfin : (TT j).2.2.2 = false) {v : Int64} (hn : narrow (ty j) (.long v) = .long v) (hfit : fits (ty j) (.long v) = true) (hdg : decode cc pc = .ok (.putfield index, 3))
    (kk : ∀ (H : Heap) (locs : List Loc), mx_H E s (mx_sl M k j v) H locs → W p l e R s m args below meth c H locs cells slots Q (F0 m (pc + 3) ls rest)) : W p l e R s m args below meth c H locs cells slots Q (F0 m pc ls (.long v :: .ref (E.2.1.2.1 k) :: rest)) := by
  obtain ⟨⟨hx, hb, hml, hown, hts⟩, hK, hG, hE, hlo, hr⟩ := C
  refine va_put hx hb hts hc.2.1 ty hc.2.2.1 hc.2.2.2 hown hK hM.1 (hE.1 M) hM.2 k (mx_obj hT) hc.1 j hj (hts _ hlink) (fun _ h => h) hfin (hc.2.2.1 j hj) hn hfit (by simpa using (List.getElem?_eq_some_iff.mp hf).1) hdg (fun H1 locs1 hP hD hS => kk H1 locs1 ⟨?_, hS⟩)
  rw [mx_fl hf, mx_setL hT] at hP
  exact hP
theorem mx_putiN (C : mx_C E p m c cc nL s args own meth ret) (hM : mx_H E s M H locs) {ci N k j index u : Nat} {Cn host : String} {TT : u_T} {ty : Nat → FieldType} (hc : mx_Cl ci Cn TT N ty) {fs : List (Nat × Nat)} (hT : E.1[k]? = some (.inl (ci, fs))) (hf : fs[j]? = some (0, u)) (hj : j < N) (hlink : va_Nw (.fieldLinkNest own index (TT j).1 (TT j).2.1 (TT j).2.2.1 host) s) (hfin : (TT j).2.2.2 = false) {v : Int32} (hn : narrow (ty j) (.int v) = .int v) (hfit : fits (ty j) (.int v) = true) (hdg : decode cc pc = .ok (.putfield index, 3))
    (kk : ∀ (H : Heap) (locs : List Loc), mx_H E s (mx_si M k j v) H locs → W p l e R s m args below meth c H locs cells slots Q (F0 m (pc + 3) ls rest)) : W p l e R s m args below meth c H locs cells slots Q (F0 m pc ls (.int v :: .ref (E.2.1.2.1 k) :: rest)) := by
  obtain ⟨⟨hx, hb, hml, hown, hts⟩, hK, hG, hE, hlo, hr⟩ := C
  refine va_putN hx hb hts hc.2.1 ty hc.2.2.1 hc.2.2.2 hown hK hM.1 (hE.1 M) hM.2 k (mx_obj hT) hc.1 j hj (va_Nw.use rfl hlink) (fun _ h => h) hfin (hc.2.2.1 j hj) hn hfit (by simpa using (List.getElem?_eq_some_iff.mp hf).1) hdg (fun H1 locs1 hP hD hS => kk H1 locs1 ⟨?_, hS⟩)
  rw [mx_fi hf, mx_setI hT] at hP
  exact hP
theorem mx_iald (C : mx_C E p m c cc nL s args own meth ret) (hM : mx_H E s M H locs) {k n : Nat} (hT : E.1[k]? = some (.inr (0, n))) {i : Int32} (hin : vp_in i n) (hdg : decode cc pc = .ok (.iaload, 1))
    (kk : W p l e R s m args below meth c H locs cells slots Q (F0 m (pc + 1) ls (.int (M.1 k i.toNatClampNeg) :: rest))) : W p l e R s m args below meth c H locs cells slots Q (F0 m pc ls (.int i :: .ref (E.2.1.2.1 k) :: rest)) := by
  obtain ⟨⟨hx, hb, hml, hown, hts⟩, hK, hG, hE, hlo, hr⟩ := C
  exact va_iald hx hb hK hM.1 k 0 (mx_ari hT rfl) rfl hin hdg kk
theorem mx_bald (C : mx_C E p m c cc nL s args own meth ret) (hM : mx_H E s M H locs) {k n : Nat} (hT : E.1[k]? = some (.inr (1, n))) {i : Int32} (hin : vp_in i n) (hdg : decode cc pc = .ok (.baload, 1))
    (kk : W p l e R s m args below meth c H locs cells slots Q (F0 m (pc + 1) ls (.int (M.1 k i.toNatClampNeg) :: rest))) : W p l e R s m args below meth c H locs cells slots Q (F0 m pc ls (.int i :: .ref (E.2.1.2.1 k) :: rest)) := by
  obtain ⟨⟨hx, hb, hml, hown, hts⟩, hK, hG, hE, hlo, hr⟩ := C
  exact va_bald hx hb hK hM.1 k 1 (mx_ari hT rfl) rfl hin hdg kk
theorem mx_zald (C : mx_C E p m c cc nL s args own meth ret) (hM : mx_H E s M H locs) {k n : Nat} (hT : E.1[k]? = some (.inr (3, n))) {i : Int32} (hin : vp_in i n) (hdg : decode cc pc = .ok (.baload, 1))
    (kk : W p l e R s m args below meth c H locs cells slots Q (F0 m (pc + 1) ls (.int (M.1 k i.toNatClampNeg) :: rest))) : W p l e R s m args below meth c H locs cells slots Q (F0 m pc ls (.int i :: .ref (E.2.1.2.1 k) :: rest)) := by
  obtain ⟨⟨hx, hb, hml, hown, hts⟩, hK, hG, hE, hlo, hr⟩ := C
  exact va_zald hx hb hK hM.1 k 3 (mx_ari hT rfl) rfl hin hdg kk
theorem mx_lald (C : mx_C E p m c cc nL s args own meth ret) (hM : mx_H E s M H locs) {k n : Nat} (hT : E.1[k]? = some (.inr (2, n))) {i : Int32} (hin : vp_in i n) (hdg : decode cc pc = .ok (.laload, 1))
    (kk : W p l e R s m args below meth c H locs cells slots Q (F0 m (pc + 1) ls (.long (M.2.1 k i.toNatClampNeg) :: rest))) : W p l e R s m args below meth c H locs cells slots Q (F0 m pc ls (.int i :: .ref (E.2.1.2.1 k) :: rest)) := by
  obtain ⟨⟨hx, hb, hml, hown, hts⟩, hK, hG, hE, hlo, hr⟩ := C
  exact va_lald hx hb hK hM.1 k 2 (mx_arl hT) rfl hin hdg kk
theorem mx_aald (C : mx_C E p m c cc nL s args own meth ret) (hM : mx_H E s M H locs) {k n t : Nat} {Cn : String} (hT : E.1[k]? = some (.inr (t + 4, n))) (ht : (mx_tys E.2.1)[t + 4]? = some (E.2.1.2.2.2 (t + 4), .object Cn)) {i : Int32} (hin : vp_in i n) (hdg : decode cc pc = .ok (.aaload, 1))
    (kk : W p l e R s m args below meth c H locs cells slots Q (F0 m (pc + 1) ls (.ref (mx_rad E.2.1 (t + 4) (M.2.2 k i.toNatClampNeg)) :: rest))) : W p l e R s m args below meth c H locs cells slots Q (F0 m pc ls (.int i :: .ref (E.2.1.2.1 k) :: rest)) := by
  obtain ⟨⟨hx, hb, hml, hown, hts⟩, hK, hG, hE, hlo, hr⟩ := C
  exact va_aldq hx hb hK hM.1 k (t + 4) (mx_arr hT) ht hin hdg kk
theorem mx_iast (C : mx_C E p m c cc nL s args own meth ret) (hM : mx_H E s M H locs) {k n : Nat} (hT : E.1[k]? = some (.inr (0, n))) {i v : Int32} (hin : vp_in i n) (hdg : decode cc pc = .ok (.iastore, 1))
    (kk : ∀ (H : Heap) (locs : List Loc), mx_H E s (mx_si M k i.toNatClampNeg v) H locs → W p l e R s m args below meth c H locs cells slots Q (F0 m (pc + 1) ls rest)) : W p l e R s m args below meth c H locs cells slots Q (F0 m pc ls (.int v :: .int i :: .ref (E.2.1.2.1 k) :: rest)) := by
  obtain ⟨⟨hx, hb, hml, hown, hts⟩, hK, hG, hE, hlo, hr⟩ := C
  refine va_iast hx hb hK hM.1 (hE.1 M) hM.2 k 0 (mx_ari hT rfl) rfl hin hdg (fun H1 locs1 hP hD hS => kk H1 locs1 ⟨?_, hS⟩)
  have h2 : (.inl (E.2.1.2.2.2 0, n, .inl (upd (M.1 k) i.toNatClampNeg v)) : va_E) = mx_E E.2.1 (mx_si M k i.toNatClampNeg v) k (.inr (0, n)) := by
    simp only [mx_E, mx_ct, mx_si_eq]
  rw [h2, mx_setI hT] at hP
  exact hP
theorem mx_bast (C : mx_C E p m c cc nL s args own meth ret) (hM : mx_H E s M H locs) {k n : Nat} (hT : E.1[k]? = some (.inr (1, n))) {i v : Int32} (hin : vp_in i n) (hdg : decode cc pc = .ok (.bastore, 1))
    (kk : ∀ (H : Heap) (locs : List Loc), mx_H E s (mx_si M k i.toNatClampNeg (v.toInt8.toInt32)) H locs → W p l e R s m args below meth c H locs cells slots Q (F0 m (pc + 1) ls rest)) : W p l e R s m args below meth c H locs cells slots Q (F0 m pc ls (.int v :: .int i :: .ref (E.2.1.2.1 k) :: rest)) := by
  obtain ⟨⟨hx, hb, hml, hown, hts⟩, hK, hG, hE, hlo, hr⟩ := C
  refine va_bast hx hb hK hM.1 (hE.1 M) hM.2 k 1 (mx_ari hT rfl) rfl hin hdg (fun H1 locs1 hP hD hS => kk H1 locs1 ⟨?_, hS⟩)
  rw [vp_nar_byte] at hP
  have h2 : (.inl (E.2.1.2.2.2 1, n, .inl (upd (M.1 k) i.toNatClampNeg (v.toInt8.toInt32))) : va_E) = mx_E E.2.1 (mx_si M k i.toNatClampNeg (v.toInt8.toInt32)) k (.inr (1, n)) := by
    simp only [mx_E, mx_ct, mx_si_eq]
  rw [h2, mx_setI hT] at hP
  exact hP
theorem mx_zast (C : mx_C E p m c cc nL s args own meth ret) (hM : mx_H E s M H locs) {k n : Nat} (hT : E.1[k]? = some (.inr (3, n))) {i v : Int32} (hin : vp_in i n) (hdg : decode cc pc = .ok (.bastore, 1))
    (kk : ∀ (H : Heap) (locs : List Loc), mx_H E s (mx_si M k i.toNatClampNeg (vp_nar .boolean v)) H locs → W p l e R s m args below meth c H locs cells slots Q (F0 m (pc + 1) ls rest)) : W p l e R s m args below meth c H locs cells slots Q (F0 m pc ls (.int v :: .int i :: .ref (E.2.1.2.1 k) :: rest)) := by
  obtain ⟨⟨hx, hb, hml, hown, hts⟩, hK, hG, hE, hlo, hr⟩ := C
  refine va_zast hx hb hK hM.1 (hE.1 M) hM.2 k 3 (mx_ari hT rfl) rfl hin hdg (fun H1 locs1 hP hD hS => kk H1 locs1 ⟨?_, hS⟩)
  have h2 : (.inl (E.2.1.2.2.2 3, n, .inl (upd (M.1 k) i.toNatClampNeg (vp_nar .boolean v))) : va_E) = mx_E E.2.1 (mx_si M k i.toNatClampNeg (vp_nar .boolean v)) k (.inr (3, n)) := by
    simp only [mx_E, mx_ct, mx_si_eq]
  rw [h2, mx_setI hT] at hP
  exact hP
theorem mx_last (C : mx_C E p m c cc nL s args own meth ret) (hM : mx_H E s M H locs) {k n : Nat} (hT : E.1[k]? = some (.inr (2, n))) {i : Int32} {v : Int64} (hin : vp_in i n) (hdg : decode cc pc = .ok (.lastore, 1))
    (kk : ∀ (H : Heap) (locs : List Loc), mx_H E s (mx_sl M k i.toNatClampNeg v) H locs → W p l e R s m args below meth c H locs cells slots Q (F0 m (pc + 1) ls rest)) : W p l e R s m args below meth c H locs cells slots Q (F0 m pc ls (.long v :: .int i :: .ref (E.2.1.2.1 k) :: rest)) := by
  obtain ⟨⟨hx, hb, hml, hown, hts⟩, hK, hG, hE, hlo, hr⟩ := C
  refine va_last hx hb hK hM.1 (hE.1 M) hM.2 k 2 (mx_arl hT) rfl hin hdg (fun H1 locs1 hP hD hS => kk H1 locs1 ⟨?_, hS⟩)
  have h2 : (.inl (E.2.1.2.2.2 2, n, .inr (.inl (vp_updL (M.2.1 k) i.toNatClampNeg v))) : va_E) = mx_E E.2.1 (mx_sl M k i.toNatClampNeg v) k (.inr (2, n)) := by
    simp only [mx_E, mx_ct, mx_sl_eq]
  rw [h2, mx_setL hT] at hP
  exact hP
/-! places that are written out -/
theorem mx_ialdL (C : mx_C E p m c cc nL s args own meth ret) (hM : mx_H E s M H locs) {k n : Nat} (hT : E.1[k]? = some (.inr (0, n))) {i : Int32} {j : Nat} (hj : i.toNatClampNeg = j) (hin : vp_in i n) (hdg : decode cc pc = .ok (.iaload, 1))
    (kk : W p l e R s m args below meth c H locs cells slots Q (F0 m (pc + 1) ls (.int (M.1 k j) :: rest))) : W p l e R s m args below meth c H locs cells slots Q (F0 m pc ls (.int i :: .ref (E.2.1.2.1 k) :: rest)) := by
  subst hj
  exact mx_iald C hM hT hin hdg kk
theorem mx_baldL (C : mx_C E p m c cc nL s args own meth ret) (hM : mx_H E s M H locs) {k n : Nat} (hT : E.1[k]? = some (.inr (1, n))) {i : Int32} {j : Nat} (hj : i.toNatClampNeg = j) (hin : vp_in i n) (hdg : decode cc pc = .ok (.baload, 1))
    (kk : W p l e R s m args below meth c H locs cells slots Q (F0 m (pc + 1) ls (.int (M.1 k j) :: rest))) : W p l e R s m args below meth c H locs cells slots Q (F0 m pc ls (.int i :: .ref (E.2.1.2.1 k) :: rest)) := by
  subst hj
  exact mx_bald C hM hT hin hdg kk
theorem mx_zaldL (C : mx_C E p m c cc nL s args own meth ret) (hM : mx_H E s M H locs) {k n : Nat} (hT : E.1[k]? = some (.inr (3, n))) {i : Int32} {j : Nat} (hj : i.toNatClampNeg = j) (hin : vp_in i n) (hdg : decode cc pc = .ok (.baload, 1))
    (kk : W p l e R s m args below meth c H locs cells slots Q (F0 m (pc + 1) ls (.int (M.1 k j) :: rest))) : W p l e R s m args below meth c H locs cells slots Q (F0 m pc ls (.int i :: .ref (E.2.1.2.1 k) :: rest)) := by
  subst hj
  exact mx_zald C hM hT hin hdg kk
theorem mx_laldL (C : mx_C E p m c cc nL s args own meth ret) (hM : mx_H E s M H locs) {k n : Nat} (hT : E.1[k]? = some (.inr (2, n))) {i : Int32} {j : Nat} (hj : i.toNatClampNeg = j) (hin : vp_in i n) (hdg : decode cc pc = .ok (.laload, 1))
    (kk : W p l e R s m args below meth c H locs cells slots Q (F0 m (pc + 1) ls (.long (M.2.1 k j) :: rest))) : W p l e R s m args below meth c H locs cells slots Q (F0 m pc ls (.int i :: .ref (E.2.1.2.1 k) :: rest)) := by
  subst hj
  exact mx_lald C hM hT hin hdg kk
theorem mx_iastL (C : mx_C E p m c cc nL s args own meth ret) (hM : mx_H E s M H locs) {k n : Nat} (hT : E.1[k]? = some (.inr (0, n))) {i v : Int32} {j : Nat} (hj : i.toNatClampNeg = j) (hin : vp_in i n) (hdg : decode cc pc = .ok (.iastore, 1))
    (kk : ∀ (H : Heap) (locs : List Loc), mx_H E s (mx_si M k j v) H locs → W p l e R s m args below meth c H locs cells slots Q (F0 m (pc + 1) ls rest)) : W p l e R s m args below meth c H locs cells slots Q (F0 m pc ls (.int v :: .int i :: .ref (E.2.1.2.1 k) :: rest)) := by
  subst hj
  exact mx_iast C hM hT hin hdg kk
theorem mx_bastL (C : mx_C E p m c cc nL s args own meth ret) (hM : mx_H E s M H locs) {k n : Nat} (hT : E.1[k]? = some (.inr (1, n))) {i v : Int32} {j : Nat} (hj : i.toNatClampNeg = j) (hin : vp_in i n) (hdg : decode cc pc = .ok (.bastore, 1))
    (kk : ∀ (H : Heap) (locs : List Loc), mx_H E s (mx_si M k j (v.toInt8.toInt32)) H locs → W p l e R s m args below meth c H locs cells slots Q (F0 m (pc + 1) ls rest)) : W p l e R s m args below meth c H locs cells slots Q (F0 m pc ls (.int v :: .int i :: .ref (E.2.1.2.1 k) :: rest)) := by
  subst hj
  exact mx_bast C hM hT hin hdg kk
theorem mx_zastL (C : mx_C E p m c cc nL s args own meth ret) (hM : mx_H E s M H locs) {k n : Nat} (hT : E.1[k]? = some (.inr (3, n))) {i v : Int32} {j : Nat} (hj : i.toNatClampNeg = j) (hin : vp_in i n) (hdg : decode cc pc = .ok (.bastore, 1))
    (kk : ∀ (H : Heap) (locs : List Loc), mx_H E s (mx_si M k j (vp_nar .boolean v)) H locs → W p l e R s m args below meth c H locs cells slots Q (F0 m (pc + 1) ls rest)) : W p l e R s m args below meth c H locs cells slots Q (F0 m pc ls (.int v :: .int i :: .ref (E.2.1.2.1 k) :: rest)) := by
  subst hj
  exact mx_zast C hM hT hin hdg kk
theorem mx_lastL (C : mx_C E p m c cc nL s args own meth ret) (hM : mx_H E s M H locs) {k n : Nat} (hT : E.1[k]? = some (.inr (2, n))) {i : Int32} {v : Int64} {j : Nat} (hj : i.toNatClampNeg = j) (hin : vp_in i n) (hdg : decode cc pc = .ok (.lastore, 1))
    (kk : ∀ (H : Heap) (locs : List Loc), mx_H E s (mx_sl M k j v) H locs → W p l e R s m args below meth c H locs cells slots Q (F0 m (pc + 1) ls rest)) : W p l e R s m args below meth c H locs cells slots Q (F0 m pc ls (.long v :: .int i :: .ref (E.2.1.2.1 k) :: rest)) := by
  subst hj
  exact mx_last C hM hT hin hdg kk
/-! ends -/
theorem mx_iret {v : Int32} {q : Int32 × MM} (C : mx_C E p m c cc nL s args own meth (some .int)) (hM : mx_H E s M H locs) (hf : some (v, M) = some q) (hdg : decode cc pc = .ok (.ireturn, 1)) : W p l e R s m args below meth c H locs 0 0 (mx_Z E below args s (some (.int q.1)) q.2) (F0 m pc ls [.int v]) := by
  cases hf
  obtain ⟨⟨hx, hb, hml, hown, hts⟩, hK, hG, hE, hlo, hr⟩ := C
  exact W.iret (v := v) hx hb hr (fun t ht hW => ⟨rfl, by rw [ht]; exact hM.1, hM.2.F ht⟩) hM.2.2.2 hdg
theorem mx_lret {v : Int64} {q : Int64 × MM} (C : mx_C E p m c cc nL s args own meth (some .long)) (hM : mx_H E s M H locs) (hf : some (v, M) = some q) (hdg : decode cc pc = .ok (.lreturn, 1)) : W p l e R s m args below meth c H locs 0 0 (mx_Z E below args s (some (.long q.1)) q.2) (F0 m pc ls [.long v]) := by
  cases hf
  obtain ⟨⟨hx, hb, hml, hown, hts⟩, hK, hG, hE, hlo, hr⟩ := C
  exact W.lret (v := v) hx hb hr (fun t ht hW => ⟨rfl, by rw [ht]; exact hM.1, hM.2.F ht⟩) hM.2.2.2 hdg
theorem mx_vret {q : MM} (C : mx_C E p m c cc nL s args own meth none) (hM : mx_H E s M H locs) (hf : some M = some q) (hdg : decode cc pc = .ok (.return_, 1)) : W p l e R s m args below meth c H locs 0 0 (mx_Z E below args s none q) (F0 m pc ls []) := by
  cases hf
  obtain ⟨⟨hx, hb, hml, hown, hts⟩, hK, hG, hE, hlo, hr⟩ := C
  exact W.vret hx hb hr (fun t ht hW => ⟨rfl, by rw [ht]; exact hM.1, hM.2.F ht⟩) hM.2.2.2 hdg
/-- booleans: 0 or 1 -/
def mx_b (b : Bool) : Int32 := if b then 1 else 0
theorem mx_b_nar (b : Bool) : narrow .boolean (.int (mx_b b)) = .int (mx_b b) := by cases b <;> decide
theorem mx_zret {v : Int32} {b : Bool} {q : Bool × MM} (C : mx_C E p m c cc nL s args own meth (some .boolean)) (hM : mx_H E s M H locs) (hv : v = mx_b b) (hf : some (b, M) = some q) (hdg : decode cc pc = .ok (.ireturn, 1)) : W p l e R s m args below meth c H locs 0 0 (mx_Z E below args s (some (.int (mx_b q.1))) q.2) (F0 m pc ls [.int v]) := by
  cases hf
  subst hv
  obtain ⟨⟨hx, hb, hml, hown, hts⟩, hK, hG, hE, hlo, hr⟩ := C
  exact W.zret (v := mx_b b) hx hb hr (mx_b_nar b) (fun t ht hW => ⟨rfl, by rw [ht]; exact hM.1, hM.2.F ht⟩) hM.2.2.2 hdg
theorem mx_iretR {v q : Int32} (C : mx_C E p m c cc nL s args own meth (some .int)) (hM : mx_H E s M H locs) (hf : some v = some q) (hdg : decode cc pc = .ok (.ireturn, 1)) : W p l e R s m args below meth c H locs 0 0 (mx_Z E below args s (some (.int q)) M) (F0 m pc ls [.int v]) := by
  cases hf
  exact mx_iret (q := (v, M)) C hM rfl hdg
theorem mx_lretR {v q : Int64} (C : mx_C E p m c cc nL s args own meth (some .long)) (hM : mx_H E s M H locs) (hf : some v = some q) (hdg : decode cc pc = .ok (.lreturn, 1)) : W p l e R s m args below meth c H locs 0 0 (mx_Z E below args s (some (.long q)) M) (F0 m pc ls [.long v]) := by
  cases hf
  exact mx_lret (q := (v, M)) C hM rfl hdg
theorem mx_zretR {v : Int32} {b q : Bool} (C : mx_C E p m c cc nL s args own meth (some .boolean)) (hM : mx_H E s M H locs) (hv : v = mx_b b) (hf : some b = some q) (hdg : decode cc pc = .ok (.ireturn, 1)) : W p l e R s m args below meth c H locs 0 0 (mx_Z E below args s (some (.int (mx_b q))) M) (F0 m pc ls [.int v]) := by
  cases hf
  exact mx_zret (q := (b, M)) C hM hv rfl hdg
/-- fuel of a loop's function -/
def mx_fu : Nat := 10000
def mx_in (i : Int32) (n : Nat) : Bool := decide (0 ≤ i) && decide (i.toNatClampNeg < n)
theorem mx_in_vp {i : Int32} {n : Nat} (h : mx_in i n = true) : vp_in i n := by
  simp only [mx_in, Bool.and_eq_true, decide_eq_true_eq] at h
  intro q
  rcases q with q | q
  · exact absurd h.1 (Int32.not_le.mpr q)
  · exact absurd h.2 (Nat.not_lt.mpr q)
def mx_isb (v : Int32) : Bool := decide (v = 0) || decide (v = 1)
theorem mx_isb_b {v : Int32} (h : mx_isb v = true) : v = mx_b (decide (v = 1)) := by
  simp only [mx_isb, Bool.or_eq_true, decide_eq_true_eq] at h
  rcases h with rfl | rfl <;> decide
def mx_ushr (x y : Int32) : Int32 := (x.toUInt32 >>> (y.toUInt32 &&& Int32.toUInt32 31)).toInt32
def mx_lushr (x : Int64) (y : Int32) : Int64 := (x.toUInt64 >>> (y.toInt64.toUInt64 &&& Int64.toUInt64 63)).toInt64
theorem mx_ift {α : Type} {P : Prop} {dP : Decidable P} {a b : Option α} {r : α} (hp : P) (h : (if P then a else b) = some r) : a = some r := by
  rw [if_pos hp] at h
  exact h
theorem mx_iff {α : Type} {P : Prop} {dP : Decidable P} {a b : Option α} {r : α} (hp : ¬ P) (h : (if P then a else b) = some r) : b = some r := by
  rw [if_neg hp] at h
  exact h
theorem mx_gn {α : Type} {P : Prop} {dP : Decidable P} {a : Option α} {r : α} (h : (if P then none else a) = some r) : ¬ P ∧ a = some r := by
  by_cases hp : P
  · rw [if_pos hp] at h
    cases h
  · rw [if_neg hp] at h
    exact ⟨hp, h⟩
/-! calls -/
theorem mx_blind {E : KE} {av : List Value} {M : MM} (hE : mx_ok E) : FrameBlind (va_Pc av (mx_Pre E M)) := by
  intro a U g mk q
  obtain ⟨q0, qP, qK, qG⟩ := q
  exact ⟨q0, qP, va_K.moved (u := U) (U := U.calling g mk a) (Vm.Alike.refl U.vm) qK, hE.2 U (U.calling g mk a) (State.WarmedH.refl U) (Nat.le_refl _) (fun _ _ _ => rfl) qG⟩
theorem mx_pre {av : List Value} (C : mx_C E p m c cc nL s args own meth ret) (hM : mx_H E s M H locs) : ∀ U : State, U.heap = H → s.WarmedH U.vm → va_Pc av (mx_Pre E M) av.toArray U := by
  obtain ⟨⟨hx, hb, hml, hown, hts⟩, hK, hG, hE, hlo, hr⟩ := C
  intro U hU hW
  exact ⟨rfl, by rw [hU]; exact hM.1, va_K.moved hW.alike hK, hE.2 s U hW (by rw [hU]; exact hM.2.1) (fun q h1 h2 => by rw [hU]; exact hM.2.2.1 q h1 h2) hG⟩
/-- behind a run: the memory M' -/
theorem mx_back {M' : MM} {o : Option Value} {st0 : List Value} {a : Array Value} (hM : mx_H E s M H locs) (hr : va_Run p l e R s m args below meth c H locs 0 0 0 0 (F0 m pc ls st0) rest (mx_Post E o M' a) E.2.2.1)
    (kk : ∀ (H : Heap) (locs : List Loc), mx_H E s M' H locs → W p l e R s m args below meth c H locs 0 0 Q (F0 m (pc + 3) ls (o.toList ++ rest))) : W p l e R s m args below meth c H locs 0 0 Q (F0 m pc ls st0) := by
  intro T hT X
  obtain ⟨v, st₀, t, T', L, h0, X', hL, e1, e2, ⟨hv, hp, hz, hk⟩, st⟩ := hr T hT X
  cases hv
  rw [h0] at hz hk
  obtain ⟨t2, a1, b1⟩ := kk T'.heap (locs ++ L) ⟨by rw [e1]; exact hp, Nat.le_trans hM.2.1 (by rw [e1]; exact hz), fun q h1 h2 => by rw [e1, hk q (Nat.lt_of_lt_of_le h1 hM.2.1) h2]; exact hM.2.2.1 q h1 h2, fun q hq => by
      rcases List.mem_append.mp hq with h | h
      · exact hM.2.2.2 q h
      · exact hL q h⟩ T' rfl X'
  exact ⟨t2, st t2 a1, b1⟩
theorem mx_recv {k ci : Nat} {q : vw_C} {fs : List (Nat × Nat)} (hK : va_K E.2.1.1 mx_cl (mx_tys E.2.1) s) (hM : mx_H E s M H locs) (hc : mx_cl[ci]? = some q) (hT : E.1[k]? = some (.inl (ci, fs))) : ∃ cell : Cell, H[E.2.1.2.1 k]? = some cell ∧ cell.vm.isStatics = false ∧ s.vm.findClass q.1 = some cell.cls :=
  va_recv hK hM.1 hc (mx_obj hT)
theorem mx_rmle {h h' n : Nat} (hh : h' < h) (hn : n ≤ 45) : (mx_rm h').frames + 1 ≤ (mx_rm h).frames ∧ 8 + (n + 11) + (mx_rm h').locals ≤ (mx_rm h).locals := by
  simp only [mx_rm]
  omega
/-- the words of a callee: its code, its number of arguments, who may call it -/
def mx_Y (y : MethodName) (yc : ByteArray) (yL : Nat) (yr : Option FieldType) (n : Nat) : Prop :=
  Cond.code y yc yL yr ∈ mx_wall ∧ Cond.initialized y.cls ∈ mx_wall ∧ (y.cls ≠ "java/lang/invoke/MethodHandle" ∧ y.cls ≠ "java/lang/invoke/VarHandle" ∧ (parseMethodDescriptor y.desc).map (fun d => d.parameters.length) = some n) ∧ yL ≤ 45
theorem mx_cb {h h' n index yL : Nat} {y : MethodName} {yc : ByteArray} {yr : Option FieldType} (C : mx_C E p m c cc nL s args own meth ret) (Y : mx_Y y yc yL yr n) (hh : h' < h) (hlink : Cond.methodLink own index y ∈ mx_wall) : CallB (mx_rm h) s args own index y yc yL yr (Cond.code y yc yL yr :: mx_wall) (mx_rm h') 0 0 n := by
  obtain ⟨⟨hx, hb, hml, hown, hts⟩, hK, hG, hE, hlo, hr⟩ := C
  exact callB_of n hts (mx_good Y.1) rfl rfl rfl (hts _ Y.2.1) (hts _ hlink) Y.2.2.1 (mx_rmle hh Y.2.2.2)
theorem mx_cn {h h' n index yL : Nat} {host : String} {y : MethodName} {yc : ByteArray} {yr : Option FieldType} (C : mx_C E p m c cc nL s args own meth ret) (Y : mx_Y y yc yL yr n) (hh : h' < h) (hlink : va_Nw (.methodLinkNest own index y host) s) : va_CN (mx_rm h) s args own index y host yc yL yr (Cond.code y yc yL yr :: mx_wall) (mx_rm h') 0 0 n := by
  obtain ⟨⟨hx, hb, hml, hown, hts⟩, hK, hG, hE, hlo, hr⟩ := C
  exact va_cnB n hts (mx_good Y.1) rfl rfl rfl hlink (hts _ Y.2.1) Y.2.2.1 (mx_rmle hh Y.2.2.2)
/-- a method of the same class -/
theorem mx_callV {h h' n index yL k ci : Nat} {y : MethodName} {yc : ByteArray} {yr : Option FieldType} {q : vw_C} {fs : List (Nat × Nat)} {As : List Value} {st0 st1 : List Value} {o : Option Value} {M' : MM} (C : mx_C E p m c cc nL s args own meth ret) (hM : mx_H E s M H locs) (hl : ls.size = nL) (Y : mx_Y y yc yL yr n) (hh : h' < h) (hlink : Cond.methodLink own index y ∈ mx_wall) (hins : Cond.instanceMethod y ∈ mx_wall) (hsel : Cond.selects q.1 y y ∈ mx_wall) (hc : mx_cl[ci]? = some q) (hT : E.1[k]? = some (.inl (ci, fs)))
    (hy : mx_Met E l y yc yL yr h' (.ref (E.2.1.2.1 k) :: As) M o M') (hn : As.length = n) (hst : st0 = As.reverse ++ .ref (E.2.1.2.1 k) :: rest) (hs1 : o.toList ++ rest = st1) (hW : (rest.map fun v => v.category).sum ≤ 8) (hdg : decode cc pc = .ok (.invokevirtual index, 3))
    (kk : ∀ (H : Heap) (locs : List Loc), mx_H E s M' H locs → W p l e (mx_rm h) s m args below meth c H locs 0 0 Q (F0 m (pc + 3) ls st1)) : W p l e (mx_rm h) s m args below meth c H locs 0 0 Q (F0 m pc ls st0) := by
  have hts := C.1.2.2.2.2
  subst hs1
  exact mx_back hM (va_runV C.1 hy ⟨mx_cb C Y hh hlink, hts _ hins, hts _ hsel⟩ ⟨mx_blind C.2.2.2.1, mx_recv C.2.1 hM hc hT, mx_pre C hM⟩ rfl hn hl hst (lv_room hW) hdg ⟨Nat.le_refl 0, Nat.le_refl 0⟩) kk
/-- a private method of a nest mate -/
theorem mx_callVN {h h' n index yL k ci : Nat} {host : String} {y : MethodName} {yc : ByteArray} {yr : Option FieldType} {q : vw_C} {fs : List (Nat × Nat)} {As : List Value} {st0 st1 : List Value} {o : Option Value} {M' : MM} (C : mx_C E p m c cc nL s args own meth ret) (hM : mx_H E s M H locs) (hl : ls.size = nL) (Y : mx_Y y yc yL yr n) (hh : h' < h) (hlink : va_Nw (.methodLinkNest own index y host) s) (hins : Cond.instanceMethod y ∈ mx_wall) (hsel : Cond.selects q.1 y y ∈ mx_wall) (hc : mx_cl[ci]? = some q) (hT : E.1[k]? = some (.inl (ci, fs)))
    (hy : mx_Met E l y yc yL yr h' (.ref (E.2.1.2.1 k) :: As) M o M') (hn : As.length = n) (hst : st0 = As.reverse ++ .ref (E.2.1.2.1 k) :: rest) (hs1 : o.toList ++ rest = st1) (hW : (rest.map fun v => v.category).sum ≤ 8) (hdg : decode cc pc = .ok (.invokevirtual index, 3))
    (kk : ∀ (H : Heap) (locs : List Loc), mx_H E s M' H locs → W p l e (mx_rm h) s m args below meth c H locs 0 0 Q (F0 m (pc + 3) ls st1)) : W p l e (mx_rm h) s m args below meth c H locs 0 0 Q (F0 m pc ls st0) := by
  have hts := C.1.2.2.2.2
  subst hs1
  exact mx_back hM (va_runVN C.1 hy ⟨mx_cn C Y hh hlink, hts _ hins, hts _ hsel⟩ ⟨mx_blind C.2.2.2.1, mx_recv C.2.1 hM hc hT, mx_pre C hM⟩ rfl hn hl hst (lv_room hW) hdg ⟨Nat.le_refl 0, Nat.le_refl 0⟩) kk
/-- a static method -/
theorem mx_callS {h h' n index yL : Nat} {y : MethodName} {yc : ByteArray} {yr : Option FieldType} {As : List Value} {st0 st1 : List Value} {o : Option Value} {M' : MM} (C : mx_C E p m c cc nL s args own meth ret) (hM : mx_H E s M H locs) (hl : ls.size = nL) (Y : mx_Y y yc yL yr n) (hh : h' < h) (hlink : Cond.methodLink own index y ∈ mx_wall) (hsta : Cond.static y ∈ mx_wall)
    (hy : mx_Met E l y yc yL yr h' As M o M') (hn : As.length = n) (hst : st0 = As.reverse ++ rest) (hs1 : o.toList ++ rest = st1) (hW : (rest.map fun v => v.category).sum ≤ 8) (hdg : decode cc pc = .ok (.invokestatic index, 3))
    (kk : ∀ (H : Heap) (locs : List Loc), mx_H E s M' H locs → W p l e (mx_rm h) s m args below meth c H locs 0 0 Q (F0 m (pc + 3) ls st1)) : W p l e (mx_rm h) s m args below meth c H locs 0 0 Q (F0 m pc ls st0) := by
  have hts := C.1.2.2.2.2
  subst hs1
  exact mx_back hM (va_runS C.1 hy ⟨mx_cb C Y hh hlink, hts _ hsta⟩ ⟨mx_blind C.2.2.2.1, mx_pre C hM⟩ rfl hn hl hst (lv_room hW) hdg ⟨Nat.le_refl 0, Nat.le_refl 0⟩) kk
theorem mx_callSN {h h' n index yL : Nat} {host : String} {y : MethodName} {yc : ByteArray} {yr : Option FieldType} {As : List Value} {st0 st1 : List Value} {o : Option Value} {M' : MM} (C : mx_C E p m c cc nL s args own meth ret) (hM : mx_H E s M H locs) (hl : ls.size = nL) (Y : mx_Y y yc yL yr n) (hh : h' < h) (hlink : va_Nw (.methodLinkNest own index y host) s) (hsta : Cond.static y ∈ mx_wall)
    (hy : mx_Met E l y yc yL yr h' As M o M') (hn : As.length = n) (hst : st0 = As.reverse ++ rest) (hs1 : o.toList ++ rest = st1) (hW : (rest.map fun v => v.category).sum ≤ 8) (hdg : decode cc pc = .ok (.invokestatic index, 3))
    (kk : ∀ (H : Heap) (locs : List Loc), mx_H E s M' H locs → W p l e (mx_rm h) s m args below meth c H locs 0 0 Q (F0 m (pc + 3) ls st1)) : W p l e (mx_rm h) s m args below meth c H locs 0 0 Q (F0 m pc ls st0) := by
  have hts := C.1.2.2.2.2
  subst hs1
  exact mx_back hM (va_runSN C.1 hy ⟨mx_cn C Y hh hlink, hts _ hsta, trivial⟩ ⟨mx_blind C.2.2.2.1, mx_pre C hM⟩ rfl hn hl hst (lv_room hW) hdg ⟨Nat.le_refl 0, Nat.le_refl 0⟩) kk
/-! what the walks do with the pure function's rest -/
theorem mx_gd {α : Type} {P : Prop} {dP : Decidable P} {a : Option α} {r : α} (h : (if P then a else none) = some r) : P ∧ a = some r := by
  by_cases hp : P
  · rw [if_pos hp] at h
    exact ⟨hp, h⟩
  · rw [if_neg hp] at h
    cases h
theorem mx_bd {α β : Type} {a : Option α} {f : α → Option β} {r : β} (h : a.bind f = some r) : ∃ x, a = some x ∧ f x = some r := by
  cases a with
  | none => cases h
  | some x => exact ⟨x, rfl, h⟩
end MXR
