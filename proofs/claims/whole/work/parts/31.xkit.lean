theorem qac_n : Cond.native arraycopyName ∈ mx_wall := qw_632
theorem qac_s : Cond.static arraycopyName ∈ mx_wall := qw_631
theorem qac_i : Cond.initialized "java/lang/System" ∈ mx_wall := qw_16
/-! THE CLASS: its table of cells, what holds of its constants, rows -/
section XKT
variable {p : Program} {l : Launch} {e : Env} {R : Room} {s : State} {m : MethodId} {args : Array Value} {below : List Frame} {meth : Method} {c : Code} {H : Heap} {locs : List Loc} {cells slots : Nat} {Q : State → Prop}
variable {cc : ByteArray} {nL pc : Nat} {ls : Array Slot} {rest : List Value} {E : KE} {M : MM} {own : String} {ret : Option FieldType}
theorem mx_b_fit (b : Bool) : fits .boolean (.int (mx_b b)) = true := by cases b <;> decide
def mx_cpi (M : MM) (a b n : Nat) : MM := (fun k j => if k = b ∧ j < n then M.1 a j else M.1 k j, M.2)
def mx_cpl (M : MM) (a b n : Nat) : MM := (M.1, fun k j => if k = b ∧ j < n then M.2.1 a j else M.2.1 k j, M.2.2)
theorem mx_aaldW (C : mx_C E p m c cc nL s args own meth ret) (hM : mx_H E s M H locs) {k n : Nat} (hT : E.1[k]? = some (.inr (7, n))) {i : Int32} (hin : vp_in i n) (hdg : decode cc pc = .ok (.aaload, 1))
    (kk : W p l e R s m args below meth c H locs cells slots Q (F0 m (pc + 1) ls (.ref (E.2.1.2.2.1 (M.2.2 k i.toNatClampNeg)) :: rest))) : W p l e R s m args below meth c H locs cells slots Q (F0 m pc ls (.int i :: .ref (E.2.1.2.1 k) :: rest)) :=
  mx_aald (t := 3) (Cn := RX11) C hM hT rfl hin hdg kk
theorem mx_aald4 (C : mx_C E p m c cc nL s args own meth ret) (hM : mx_H E s M H locs) {k n : Nat} (hT : E.1[k]? = some (.inr (4, n))) {i : Int32} (hin : vp_in i n) (hdg : decode cc pc = .ok (.aaload, 1))
    (kk : W p l e R s m args below meth c H locs cells slots Q (F0 m (pc + 1) ls (.ref (E.2.1.2.1 (M.2.2 k i.toNatClampNeg)) :: rest))) : W p l e R s m args below meth c H locs cells slots Q (F0 m pc ls (.int i :: .ref (E.2.1.2.1 k) :: rest)) :=
  mx_aald (t := 0) (Cn := RX9) C hM hT rfl hin hdg kk
theorem mx_aald5 (C : mx_C E p m c cc nL s args own meth ret) (hM : mx_H E s M H locs) {k n : Nat} (hT : E.1[k]? = some (.inr (5, n))) {i : Int32} (hin : vp_in i n) (hdg : decode cc pc = .ok (.aaload, 1))
    (kk : W p l e R s m args below meth c H locs cells slots Q (F0 m (pc + 1) ls (.ref (E.2.1.2.1 (M.2.2 k i.toNatClampNeg)) :: rest))) : W p l e R s m args below meth c H locs cells slots Q (F0 m pc ls (.int i :: .ref (E.2.1.2.1 k) :: rest)) :=
  mx_aald (t := 1) (Cn := RX3) C hM hT rfl hin hdg kk
theorem mx_aald6 (C : mx_C E p m c cc nL s args own meth ret) (hM : mx_H E s M H locs) {k n : Nat} (hT : E.1[k]? = some (.inr (6, n))) {i : Int32} (hin : vp_in i n) (hdg : decode cc pc = .ok (.aaload, 1))
    (kk : W p l e R s m args below meth c H locs cells slots Q (F0 m (pc + 1) ls (.ref (E.2.1.2.1 (M.2.2 k i.toNatClampNeg)) :: rest))) : W p l e R s m args below meth c H locs cells slots Q (F0 m pc ls (.int i :: .ref (E.2.1.2.1 k) :: rest)) :=
  mx_aald (t := 2) (Cn := RX8) C hM hT rfl hin hdg kk
theorem mx_aald4L (C : mx_C E p m c cc nL s args own meth ret) (hM : mx_H E s M H locs) {k n : Nat} (hT : E.1[k]? = some (.inr (4, n))) {i : Int32} {j : Nat} (hj : i.toNatClampNeg = j) (hin : vp_in i n) (hdg : decode cc pc = .ok (.aaload, 1))
    (kk : W p l e R s m args below meth c H locs cells slots Q (F0 m (pc + 1) ls (.ref (E.2.1.2.1 (M.2.2 k j)) :: rest))) : W p l e R s m args below meth c H locs cells slots Q (F0 m pc ls (.int i :: .ref (E.2.1.2.1 k) :: rest)) := by
  subst hj
  exact mx_aald4 C hM hT hin hdg kk
theorem mx_sr_eq {k j v : Nat} {t : Nat} : (fun i => some (mx_rad E.2.1 t ((mx_sr M k j v).2.2 k i))) = va_up (fun i => some (mx_rad E.2.1 t (M.2.2 k i))) j (some (mx_rad E.2.1 t v)) := by
  funext b
  by_cases hb : b = j
  · subst hb
    simp [mx_sr, va_up]
  · simp [mx_sr, va_up, hb]
theorem mx_aast4 (C : mx_C E p m c cc nL s args own meth ret) (hM : mx_H E s M H locs) {k n v : Nat} {fs : List (Nat × Nat)} (hT : E.1[k]? = some (.inr (4, n))) (hv : E.1[v]? = some (.inl (9, fs))) {i : Int32} {j : Nat} (hj : i.toNatClampNeg = j) (hin : vp_in i n) (hdg : decode cc pc = .ok (.aastore, 1))
    (kk : ∀ (H : Heap) (locs : List Loc), mx_H E s (mx_sr M k j v) H locs → W p l e R s m args below meth c H locs cells slots Q (F0 m (pc + 1) ls rest)) : W p l e R s m args below meth c H locs cells slots Q (F0 m pc ls (.ref (E.2.1.2.1 v) :: .int i :: .ref (E.2.1.2.1 k) :: rest)) := by
  subst hj
  obtain ⟨⟨hx, hb, hml, hown, hts⟩, hK, hG, hE, hlo, hr⟩ := C
  refine va_astq hx hb hK hM.1 (hE.1 M) hM.2 k 4 v 9 (r := (RX9, TX9, 13)) (mx_arr (t := 0) hT) rfl (mx_obj hv) rfl hin hdg (fun H1 locs1 hP hD hS => kk H1 locs1 ⟨?_, hS⟩)
  have h2 : (.inl (E.2.1.2.2.2 4, n, .inr (.inr (.inr (.inr (va_up (fun i => some (mx_rad E.2.1 (0 + 4) (M.2.2 k i))) i.toNatClampNeg (some (E.2.1.2.1 v))))))) : va_E) = mx_E E.2.1 (mx_sr M k i.toNatClampNeg v) k (.inr (4, n)) := by
    have h3 := mx_sr_eq (E := E) (M := M) (k := k) (j := i.toNatClampNeg) (v := v) (t := 4)
    simp only [mx_E, mx_ct, h3]
    rfl
  rw [show ((mx_ws E.1 E.2.1 M).set k (E.2.1.2.1 k, .inl (E.2.1.2.2.2 (0 + 4), n, .inr (.inr (.inr (.inr (va_up (fun i => some (mx_rad E.2.1 (0 + 4) (M.2.2 k i))) i.toNatClampNeg (some (E.2.1.2.1 v))))))))) = (mx_ws E.1 E.2.1 M).set k (E.2.1.2.1 k, mx_E E.2.1 (mx_sr M k i.toNatClampNeg v) k (.inr (4, n))) from by rw [← h2], mx_setR hT] at hP
  exact hP
theorem mx_wret {v : Nat} {q : Nat × MM} (C : mx_C E p m c cc nL s args own meth (some (.object RX11))) (hM : mx_H E s M H locs) (hf : some (v, M) = some q) (hdg : decode cc pc = .ok (.areturn, 1)) : W p l e R s m args below meth c H locs 0 0 (mx_Z E below args s (some (.ref (E.2.1.2.2.1 q.1))) q.2) (F0 m pc ls [.ref (E.2.1.2.2.1 v)]) := by
  cases hf
  obtain ⟨⟨hx, hb, hml, hown, hts⟩, hK, hG, hE, hlo, hr⟩ := C
  exact W.aret hx hb hr (Or.inl ⟨_, rfl⟩) (Or.inr ⟨_, rfl⟩) (fun t ht hW => ⟨rfl, by rw [ht]; exact hM.1, hM.2.F ht⟩) hM.2.2.2 hdg
theorem mx_wretR {v q : Nat} (C : mx_C E p m c cc nL s args own meth (some (.object RX11))) (hM : mx_H E s M H locs) (hf : some v = some q) (hdg : decode cc pc = .ok (.areturn, 1)) : W p l e R s m args below meth c H locs 0 0 (mx_Z E below args s (some (.ref (E.2.1.2.2.1 q))) M) (F0 m pc ls [.ref (E.2.1.2.2.1 v)]) := by
  cases hf
  exact mx_wret (q := (v, M)) C hM rfl hdg
theorem mx_cretR {v q : Int32} (C : mx_C E p m c cc nL s args own meth (some .char)) (hM : mx_H E s M H locs) (hn : narrow .char (.int v) = .int v) (hf : some v = some q) (hdg : decode cc pc = .ok (.ireturn, 1)) : W p l e R s m args below meth c H locs 0 0 (mx_Z E below args s (some (.int q)) M) (F0 m pc ls [.int v]) := by
  cases hf
  obtain ⟨⟨hx, hb, hml, hown, hts⟩, hK, hG, hE, hlo, hr⟩ := C
  exact W.zret (v := v) hx hb hr hn (fun t ht hW => ⟨rfl, by rw [ht]; exact hM.1, hM.2.F ht⟩) hM.2.2.2 hdg
theorem mx_cpy_eq {α : Type} (f g : Nat → α) (n : Nat) : va_cpy f g 0 0 n = fun j => if j < n then f j else g j := by
  funext j
  simp [va_cpy]
theorem mx_cpiR {h : Nat} (C : mx_C E p m c cc nL s args own meth ret) (hM : mx_H E s M H locs) (hl : ls.size = nL) {index a b N : Nat} (hlink : Cond.methodLink own index arraycopyName ∈ mx_wall) (ha : E.1[a]? = some (.inr (0, N))) (hb' : E.1[b]? = some (.inr (0, N))) {n : Int32} (hn : n = nI N) (hN : N ≤ 1000) (hh : 1 ≤ h) (hdg : decode cc pc = .ok (.invokestatic index, 3))
    (kk : ∀ (H : Heap) (locs : List Loc), mx_H E s (mx_cpi M a b N) H locs → W p l e (mx_rm h) s m args below meth c H locs cells slots Q (F0 m (pc + 3) ls [])) : W p l e (mx_rm h) s m args below meth c H locs cells slots Q (F0 m pc ls [.int n, .int 0, .ref (E.2.1.2.1 b), .int 0, .ref (E.2.1.2.1 a)]) := by
  obtain ⟨⟨hx, hb, hml, hown, hts⟩, hK, hG, hE, hlo, hr⟩ := C
  have hcl : n.toNatClampNeg = N := by rw [hn]; exact nI_clamp (by omega)
  have h0 : (0 : Int32).toNatClampNeg = 0 := by decide
  refine va_copyi hx hb (hml.trans hl.symm) hown (hts _ hlink) (hts _ qac_n) (hts _ qac_s) (hts _ qac_i) hK hM.1 (hE.1 M) hM.2 a b 0 0 (mx_ari ha rfl) (mx_ari hb' rfl) rfl rfl rfl (by decide) (by decide) (by rw [hn]; exact nI_pos (by omega)) (by rw [h0, hcl]; omega) (by rw [h0, hcl]; omega) (fun _ _ => rfl) hh (by
    show 0 + (nativeFrameWords "java/lang/System" "arraycopy" 5 + 11) ≤ 64 * h
    have : nativeFrameWords "java/lang/System" "arraycopy" 5 ≤ 53 := by decide +kernel
    omega) hdg (fun H1 locs1 hP hD hS => kk H1 locs1 ⟨?_, hS⟩)
  rw [h0, hcl, mx_cpy_eq] at hP
  have hoff : ∀ i e, i ≠ b → E.1[i]? = some e → mx_E E.2.1 (mx_cpi M a b N) i e = mx_E E.2.1 M i e := fun i e hi _ => mx_E_off (M := M) (M' := mx_cpi M a b N) (by funext j; simp [mx_cpi, hi]) rfl rfl e
  have h2 : (.inl (E.2.1.2.2.2 0, N, .inl (fun j => if j < N then M.1 a j else M.1 b j)) : va_E) = mx_E E.2.1 (mx_cpi M a b N) b (.inr (0, N)) := by
    simp only [mx_E, mx_ct, mx_cpi, true_and]
  rw [h2, mx_set hb' hoff] at hP
  exact hP
theorem mx_cplR {h : Nat} (C : mx_C E p m c cc nL s args own meth ret) (hM : mx_H E s M H locs) (hl : ls.size = nL) {index a b N : Nat} (hlink : Cond.methodLink own index arraycopyName ∈ mx_wall) (ha : E.1[a]? = some (.inr (2, N))) (hb' : E.1[b]? = some (.inr (2, N))) {n : Int32} (hn : n = nI N) (hN : N ≤ 1000) (hh : 1 ≤ h) (hdg : decode cc pc = .ok (.invokestatic index, 3))
    (kk : ∀ (H : Heap) (locs : List Loc), mx_H E s (mx_cpl M a b N) H locs → W p l e (mx_rm h) s m args below meth c H locs cells slots Q (F0 m (pc + 3) ls [])) : W p l e (mx_rm h) s m args below meth c H locs cells slots Q (F0 m pc ls [.int n, .int 0, .ref (E.2.1.2.1 b), .int 0, .ref (E.2.1.2.1 a)]) := by
  obtain ⟨⟨hx, hb, hml, hown, hts⟩, hK, hG, hE, hlo, hr⟩ := C
  have hcl : n.toNatClampNeg = N := by rw [hn]; exact nI_clamp (by omega)
  have h0 : (0 : Int32).toNatClampNeg = 0 := by decide
  refine va_copyl hx hb (hml.trans hl.symm) hown (hts _ hlink) (hts _ qac_n) (hts _ qac_s) (hts _ qac_i) hK hM.1 (hE.1 M) hM.2 a b 2 2 (mx_arl ha) (mx_arl hb') rfl rfl rfl (by decide) (by decide) (by rw [hn]; exact nI_pos (by omega)) (by rw [h0, hcl]; omega) (by rw [h0, hcl]; omega) (fun _ _ => rfl) hh (by
    show 0 + (nativeFrameWords "java/lang/System" "arraycopy" 5 + 11) ≤ 64 * h
    have : nativeFrameWords "java/lang/System" "arraycopy" 5 ≤ 53 := by decide +kernel
    omega) hdg (fun H1 locs1 hP hD hS => kk H1 locs1 ⟨?_, hS⟩)
  rw [h0, hcl, mx_cpy_eq] at hP
  have hoff : ∀ i e, i ≠ b → E.1[i]? = some e → mx_E E.2.1 (mx_cpl M a b N) i e = mx_E E.2.1 M i e := fun i e hi _ => mx_E_off (M := M) (M' := mx_cpl M a b N) rfl (by funext j; simp [mx_cpl, hi]) rfl e
  have h2 : (.inl (E.2.1.2.2.2 2, N, .inr (.inl (fun j => if j < N then M.2.1 a j else M.2.1 b j))) : va_E) = mx_E E.2.1 (mx_cpl M a b N) b (.inr (2, N)) := by
    simp only [mx_E, mx_ct, mx_cpl, true_and]
  rw [h2, mx_set hb' hoff] at hP
  exact hP
/-! constants -/
def xwn (w : Nat) : String := (["OTHER", "PERSON", "RING", "FIT", "WALK", "JINGLE", "GOES", "HANDS", "WEARS", "DOFFS", "FINDS", "DAY", "OR", "AND", "NOT", "RINGED", "HAPPY", "BARE", "HAS", "BY", "KEEPS", "STEPS", "FINGER", "NUMBER"] : List String).getD w ""
def xwc (w : Nat) : Int64 := ([0, 542723566, 599495, 6452, 755083, 345447813, 244915, 8435859, 24282707, 4692179, 6600851, 4153, 498, 1476, 14836, 613883044, 8438297, 67141, 8243, 89, 11703827, 20583955, 211229874, 492210354] : List Int64).getD w 0
def xsw (w : Nat) : Int32 := ([0, 1, 2, 3, 4, 5, 6, 7, 8, 9, 10, 0, 22, 21, 11, 12, 13, 14, 15, 16, 17, 18, 19, 20] : List Int32).getD w 0
def xisn : Cond → Bool
  | .fieldLinkNest .. => true
  | .methodLinkNest .. => true
  | _ => false
def xnest : List Cond := lw_tbl.filter xisn
/-- what holds of the constants, and never changes: Word's, the table of a switch, the links to nest mates, three texts -/
def xg (X : XE) (A : Nat → Prop) (s : State) : Prop :=
  (∀ w, w < 24 → va_Z RX11 (xwn w) "LRingKeepers$Word;" (.ref (X.2.2.1 w)) A s s.heap ∧ va_O RX11 (X.2.2.1 w) A s s.heap ∧ va_OF "java/lang/Enum" "ordinal" "I" (.int (nI w)) (X.2.2.1 w) A s s.heap ∧ va_OF RX11 "code" "J" (.long (xwc w)) (X.2.2.1 w) A s s.heap) ∧
  (∀ i j, i < 24 → j < 24 → X.2.2.1 i = X.2.2.1 j → i = j) ∧
  (va_Z RX11 "ALL" "[LRingKeepers$Word;" (.ref (X.2.2.1 24)) A s s.heap ∧ va_T (.object RX11) (X.2.2.1 24) 24 (fun i => .ref (X.2.2.1 i)) A s s.heap) ∧
  (va_Z RX0 "$SwitchMap$RingKeepers$Word" "[I" (.ref (X.2.2.1 25)) A s s.heap ∧ va_T .int (X.2.2.1 25) 24 (fun i => .int (xsw i)) A s s.heap) ∧
  (∀ w ∈ xnest, va_Nw w s) ∧
  (vk_S 3 [7, 4, 7] [[32, 107, 101, 101, 112, 115, 32], [32, 102, 111, 114], [32, 119, 101, 97, 114, 115, 32]] (fun i => X.2.2.1 (30 + i)) (fun i => X.2.2.1 (40 + i)) A s s.heap ∧ vk_R RX4 42 " keeps " (X.2.2.1 30) s ∧ vk_R RX4 57 " for" (X.2.2.1 31) s ∧ vk_R RX4 66 " wears " (X.2.2.1 32) s ∧ va_Z "java/lang/String" "COMPACT_STRINGS" "Z" (.int 1) A s s.heap ∧ va_Zq "jdk/internal/util/Preconditions" "SIOOBE_FORMATTER" "Ljava/util/function/BiFunction;" A s s.heap)
def xt : List CD := [.inl (12, [(2, 1), (2, 3), (2, 9), (2, 19), (2, 29), (2, 38), (2, 47), (2, 56), (2, 130), (2, 134), (2, 138), (2, 143), (2, 149), (2, 152), (2, 154), (2, 155), (2, 156), (2, 157), (0, 0)]), .inl (10, [(2, 2), (0, 0)]), .inr (1, 940), .inl (7, [(2, 1), (2, 4), (2, 5), (2, 6), (2, 7), (2, 8), (0, 0), (0, 0), (0, 0), (0, 0), (0, 0), (0, 0)]), .inr (0, 941), .inr (0, 941), .inr (0, 941), .inr (2, 941), .inr (7, 941), .inl (3, [(0, 0), (0, 0), (2, 10), (2, 11), (2, 12), (2, 13), (2, 14), (2, 15), (2, 16), (2, 17), (2, 18), (0, 0), (0, 0), (0, 0), (0, 0), (0, 0), (0, 0), (0, 0)]), .inr (2, 7), .inr (0, 7), .inr (0, 7), .inr (0, 7), .inr (2, 7), .inr (0, 7), .inr (0, 7), .inr (0, 7), .inr (0, 7), .inl (3, [(0, 0), (0, 0), (2, 20), (2, 21), (2, 22), (2, 23), (2, 24), (2, 25), (2, 26), (2, 27), (2, 28), (0, 0), (0, 0), (0, 0), (0, 0), (0, 0), (0, 0), (0, 0)]), .inr (2, 7), .inr (0, 7), .inr (0, 7), .inr (0, 7), .inr (2, 7), .inr (0, 7), .inr (0, 7), .inr (0, 7), .inr (0, 7), .inl (9, [(2, 9), (2, 30), (2, 31), (2, 32), (2, 33), (2, 34), (2, 35), (2, 36), (2, 37), (0, 0), (0, 0), (0, 0), (0, 0)]), .inr (0, 7), .inr (0, 7), .inr (0, 7), .inr (0, 7), .inr (0, 7), .inr (0, 7), .inr (0, 7), .inr (0, 7), .inl (9, [(2, 9), (2, 39), (2, 40), (2, 41), (2, 42), (2, 43), (2, 44), (2, 45), (2, 46), (0, 0), (0, 0), (0, 0), (0, 0)]), .inr (0, 7), .inr (0, 7), .inr (0, 7), .inr (0, 7), .inr (0, 7), .inr (0, 7), .inr (0, 7), .inr (0, 7), .inl (9, [(2, 9), (2, 48), (2, 49), (2, 50), (2, 51), (2, 52), (2, 53), (2, 54), (2, 55), (0, 0), (0, 0), (0, 0), (0, 0)]), .inr (0, 7), .inr (0, 7), .inr (0, 7), .inr (0, 7), .inr (0, 7), .inr (0, 7), .inr (0, 7), .inr (0, 7), .inl (5, [(2, 57), (0, 0)]), .inr (4, 8), .inl (9, [(2, 9), (2, 59), (2, 60), (2, 61), (2, 62), (2, 63), (2, 64), (2, 65), (2, 66), (0, 0), (0, 0), (0, 0), (0, 0)]), .inr (0, 7), .inr (0, 7), .inr (0, 7), .inr (0, 7), .inr (0, 7), .inr (0, 7), .inr (0, 7), .inr (0, 7), .inl (9, [(2, 9), (2, 68), (2, 69), (2, 70), (2, 71), (2, 72), (2, 73), (2, 74), (2, 75), (0, 0), (0, 0), (0, 0), (0, 0)]), .inr (0, 7), .inr (0, 7), .inr (0, 7), .inr (0, 7), .inr (0, 7), .inr (0, 7), .inr (0, 7), .inr (0, 7), .inl (9, [(2, 9), (2, 77), (2, 78), (2, 79), (2, 80), (2, 81), (2, 82), (2, 83), (2, 84), (0, 0), (0, 0), (0, 0), (0, 0)]), .inr (0, 7), .inr (0, 7), .inr (0, 7), .inr (0, 7), .inr (0, 7), .inr (0, 7), .inr (0, 7), .inr (0, 7), .inl (9, [(2, 9), (2, 86), (2, 87), (2, 88), (2, 89), (2, 90), (2, 91), (2, 92), (2, 93), (0, 0), (0, 0), (0, 0), (0, 0)]), .inr (0, 7), .inr (0, 7), .inr (0, 7), .inr (0, 7), .inr (0, 7), .inr (0, 7), .inr (0, 7), .inr (0, 7), .inl (9, [(2, 9), (2, 95), (2, 96), (2, 97), (2, 98), (2, 99), (2, 100), (2, 101), (2, 102), (0, 0), (0, 0), (0, 0), (0, 0)]), .inr (0, 7), .inr (0, 7), .inr (0, 7), .inr (0, 7), .inr (0, 7), .inr (0, 7), .inr (0, 7), .inr (0, 7), .inl (9, [(2, 9), (2, 104), (2, 105), (2, 106), (2, 107), (2, 108), (2, 109), (2, 110), (2, 111), (0, 0), (0, 0), (0, 0), (0, 0)]), .inr (0, 7), .inr (0, 7), .inr (0, 7), .inr (0, 7), .inr (0, 7), .inr (0, 7), .inr (0, 7), .inr (0, 7), .inl (9, [(2, 9), (2, 113), (2, 114), (2, 115), (2, 116), (2, 117), (2, 118), (2, 119), (2, 120), (0, 0), (0, 0), (0, 0), (0, 0)]), .inr (0, 7), .inr (0, 7), .inr (0, 7), .inr (0, 7), .inr (0, 7), .inr (0, 7), .inr (0, 7), .inr (0, 7), .inl (9, [(2, 9), (2, 122), (2, 123), (2, 124), (2, 125), (2, 126), (2, 127), (2, 128), (2, 129), (0, 0), (0, 0), (0, 0), (0, 0)]), .inr (0, 7), .inr (0, 7), .inr (0, 7), .inr (0, 7), .inr (0, 7), .inr (0, 7), .inr (0, 7), .inr (0, 7), .inl (8, [(2, 131), (2, 132), (2, 133), (0, 0), (0, 0)]), .inr (7, 40), .inr (0, 40), .inr (0, 40), .inl (8, [(2, 135), (2, 136), (2, 137), (0, 0), (0, 0)]), .inr (7, 40), .inr (0, 40), .inr (0, 40), .inl (1, [(2, 139), (2, 140), (2, 141), (2, 142), (0, 0), (0, 0), (0, 0), (0, 0), (0, 0), (0, 0)]), .inr (0, 40), .inr (0, 40), .inr (0, 40), .inr (0, 40), .inl (6, [(2, 144), (0, 0), (2, 145), (0, 0), (2, 146), (2, 147), (2, 148)]), .inr (0, 7), .inr (0, 7), .inr (0, 896), .inr (0, 128), .inr (0, 7), .inl (2, [(0, 0), (0, 0), (2, 150), (2, 151)]), .inr (0, 128), .inr (0, 7), .inl (4, [(2, 153), (0, 0)]), .inr (1, 128), .inr (5, 2), .inr (4, 2), .inr (6, 2), .inr (3, 2), .inl (3, [(0, 0), (0, 0), (2, 159), (2, 160), (2, 161), (2, 162), (2, 163), (2, 164), (2, 165), (2, 166), (2, 167), (0, 0), (0, 0), (0, 0), (0, 0), (0, 0), (0, 0), (0, 0)]), .inr (2, 7), .inr (0, 7), .inr (0, 7), .inr (0, 7), .inr (2, 7), .inr (0, 7), .inr (0, 7), .inr (0, 7), .inr (0, 7), .inl (9, [(2, 9), (2, 169), (2, 170), (2, 171), (2, 172), (2, 173), (2, 174), (2, 175), (2, 176), (0, 0), (0, 0), (0, 0), (0, 0)]), .inr (0, 7), .inr (0, 7), .inr (0, 7), .inr (0, 7), .inr (0, 7), .inr (0, 7), .inr (0, 7), .inr (0, 7), .inl (8, [(2, 178), (2, 179), (2, 180), (0, 0), (0, 0)]), .inr (7, 40), .inr (0, 40), .inr (0, 40), .inl (3, [(0, 0), (0, 0), (2, 182), (2, 183), (2, 184), (2, 185), (2, 186), (2, 187), (2, 188), (2, 189), (2, 190), (0, 0), (0, 0), (0, 0), (0, 0), (0, 0), (0, 0), (0, 0)]), .inr (2, 7), .inr (0, 7), .inr (0, 7), .inr (0, 7), .inr (2, 7), .inr (0, 7), .inr (0, 7), .inr (0, 7), .inr (0, 7), .inl (9, [(2, 9), (2, 192), (2, 193), (2, 194), (2, 195), (2, 196), (2, 197), (2, 198), (2, 199), (0, 0), (0, 0), (0, 0), (0, 0)]), .inr (0, 7), .inr (0, 7), .inr (0, 7), .inr (0, 7), .inr (0, 7), .inr (0, 7), .inr (0, 7), .inr (0, 7), .inl (8, [(2, 201), (2, 202), (2, 203), (0, 0), (0, 0)]), .inr (7, 40), .inr (0, 40), .inr (0, 40)]
def xt_isI (o : Nat) : Bool := o == 9 || o == 19 || o == 158 || o == 181
def xt_isS (o : Nat) : Bool := o == 29 || o == 38 || o == 47 || o == 58 || o == 67 || o == 76 || o == 85 || o == 94 || o == 103 || o == 112 || o == 121 || o == 168 || o == 191
def xt_isN (o : Nat) : Bool := o == 130 || o == 134 || o == 177 || o == 200
def xOK (E : KE) : Prop := E.1 = xt ∧ ∀ s, E.2.2.2 s → xg E.2.1 E.2.2.1 s
theorem xnw (hT : xOK E) (C : mx_C E p m c cc nL s args own meth ret) {w : Cond} (i : Nat) (h : lw_tbl[i]? = some w) (g : xisn w = true) : va_Nw w s := (hT.2 s C.2.2.1).2.2.2.2.1 w (List.mem_filter.mpr ⟨List.mem_of_getElem? h, g⟩)
theorem xw_get {w index : Nat} (C : mx_C E p m c cc nL s args own meth ret) (hT : xOK E) (hw : w < 24) (hM : mx_H E s M H locs) (hlink : (Cond.fieldLink own index RX11 (xwn w) "LRingKeepers$Word;").before args s = true) (hdg : decode cc pc = .ok (.getstatic index, 3))
    (kk : W p l e R s m args below meth c H locs cells slots Q (F0 m (pc + 3) ls (.ref (E.2.1.2.2.1 w) :: rest))) : W p l e R s m args below meth c H locs cells slots Q (F0 m pc ls rest) :=
  va_gets C.1.1 C.1.2.1 ((hT.2 s C.2.2.1).1 w hw).1 hM.2 C.1.2.2.2.1 hlink (fun _ h => h) hdg kk
theorem xw_code {w index : Nat} (C : mx_C E p m c cc nL s args own meth ret) (hT : xOK E) (hw : w < 24) (hM : mx_H E s M H locs) (hlink : (Cond.fieldLink own index RX11 "code" "J").before args s = true) (hdg : decode cc pc = .ok (.getfield index, 3))
    (kk : W p l e R s m args below meth c H locs cells slots Q (F0 m (pc + 3) ls (.long (xwc w) :: rest))) : W p l e R s m args below meth c H locs cells slots Q (F0 m pc ls (.ref (E.2.1.2.2.1 w) :: rest)) :=
  vk_getf C.1.1 C.1.2.1 ((hT.2 s C.2.2.1).1 w hw).2.2.2 hM.2 C.1.2.2.2.1 hlink (fun _ h => h) hdg kk
theorem xw_all {index : Nat} (C : mx_C E p m c cc nL s args own meth ret) (hT : xOK E) (hM : mx_H E s M H locs) (hlink : (Cond.fieldLink own index RX11 "ALL" "[LRingKeepers$Word;").before args s = true) (hdg : decode cc pc = .ok (.getstatic index, 3))
    (kk : W p l e R s m args below meth c H locs cells slots Q (F0 m (pc + 3) ls (.ref (E.2.1.2.2.1 24) :: rest))) : W p l e R s m args below meth c H locs cells slots Q (F0 m pc ls rest) :=
  va_gets C.1.1 C.1.2.1 (hT.2 s C.2.2.1).2.2.1.1 hM.2 C.1.2.2.2.1 hlink (fun _ h => h) hdg kk
theorem xw_alln (C : mx_C E p m c cc nL s args own meth ret) (hT : xOK E) (hM : mx_H E s M H locs) (hdg : decode cc pc = .ok (.arraylength, 1))
    (kk : W p l e R s m args below meth c H locs cells slots Q (F0 m (pc + 1) ls (.int 24 :: rest))) : W p l e R s m args below meth c H locs cells slots Q (F0 m pc ls (.ref (E.2.1.2.2.1 24) :: rest)) :=
  va_tlen C.1.1 C.1.2.1 (hT.2 s C.2.2.1).2.2.1.2 hM.2 rfl hdg kk
theorem xw_alla {i : Int32} (C : mx_C E p m c cc nL s args own meth ret) (hT : xOK E) (hM : mx_H E s M H locs) (hin : vp_in i 24) (hdg : decode cc pc = .ok (.aaload, 1))
    (kk : W p l e R s m args below meth c H locs cells slots Q (F0 m (pc + 1) ls (.ref (E.2.1.2.2.1 i.toNatClampNeg) :: rest))) : W p l e R s m args below meth c H locs cells slots Q (F0 m pc ls (.int i :: .ref (E.2.1.2.2.1 24) :: rest)) :=
  vb_tq C.1.1 C.1.2.1 (hT.2 s C.2.2.1).2.2.1.2 hM.2 hin rfl hdg kk
theorem xw_sw {index : Nat} (C : mx_C E p m c cc nL s args own meth ret) (hT : xOK E) (hM : mx_H E s M H locs) (hlink : (Cond.fieldLink own index RX0 "$SwitchMap$RingKeepers$Word" "[I").before args s = true) (hdg : decode cc pc = .ok (.getstatic index, 3))
    (kk : W p l e R s m args below meth c H locs cells slots Q (F0 m (pc + 3) ls (.ref (E.2.1.2.2.1 25) :: rest))) : W p l e R s m args below meth c H locs cells slots Q (F0 m pc ls rest) :=
  va_gets C.1.1 C.1.2.1 (hT.2 s C.2.2.1).2.2.2.1.1 hM.2 C.1.2.2.2.1 hlink (fun _ h => h) hdg kk
theorem xw_swa {w : Nat} (C : mx_C E p m c cc nL s args own meth ret) (hT : xOK E) (hM : mx_H E s M H locs) (hw : w < 24) (hdg : decode cc pc = .ok (.iaload, 1))
    (kk : W p l e R s m args below meth c H locs cells slots Q (F0 m (pc + 1) ls (.int (xsw w) :: rest))) : W p l e R s m args below meth c H locs cells slots Q (F0 m pc ls (.int (nI w) :: .ref (E.2.1.2.2.1 25) :: rest)) :=
  va_ti C.1.1 C.1.2.1 (hT.2 s C.2.2.1).2.2.2.1.2 hM.2 (vp_in_nI hw (by decide)) (by rw [nI_clamp (by omega)]) hdg kk
theorem xw_eq {a b tgt : Nat} {off : Int} (C : mx_C E p m c cc nL s args own meth ret) (hT : xOK E) (ha : a < 24) (hb : b < 24) (hdg : decode cc pc = .ok (.if_acmp .eq off, 3)) (ht : (pc : Int) + off = (tgt : Int))
    (kt : a = b → W p l e R s m args below meth c H locs cells slots Q (F0 m tgt ls rest)) (kf : ¬ a = b → W p l e R s m args below meth c H locs cells slots Q (F0 m (pc + 3) ls rest)) : W p l e R s m args below meth c H locs cells slots Q (F0 m pc ls (.ref (E.2.1.2.2.1 b) :: .ref (E.2.1.2.2.1 a) :: rest)) :=
  lv_acmp_eq (rx := some (E.2.1.2.2.1 a)) (ry := some (E.2.1.2.2.1 b)) C.1.1 C.1.2.1 hdg ht (fun h => kt ((hT.2 s C.2.2.1).2.1 a b ha hb (Option.some.inj h))) (fun h => kf (fun q => h (by rw [q])))
theorem xw_ne {a b tgt : Nat} {off : Int} (C : mx_C E p m c cc nL s args own meth ret) (hT : xOK E) (ha : a < 24) (hb : b < 24) (hdg : decode cc pc = .ok (.if_acmp .ne off, 3)) (ht : (pc : Int) + off = (tgt : Int))
    (kt : ¬ a = b → W p l e R s m args below meth c H locs cells slots Q (F0 m tgt ls rest)) (kf : a = b → W p l e R s m args below meth c H locs cells slots Q (F0 m (pc + 3) ls rest)) : W p l e R s m args below meth c H locs cells slots Q (F0 m pc ls (.ref (E.2.1.2.2.1 b) :: .ref (E.2.1.2.2.1 a) :: rest)) :=
  lv_acmp_ne (rx := some (E.2.1.2.2.1 a)) (ry := some (E.2.1.2.2.1 b)) C.1.1 C.1.2.1 hdg ht (fun h => kt (fun q => h (by rw [q]))) (fun h => kf ((hT.2 s C.2.2.1).2.1 a b ha hb (Option.some.inj h)))
theorem xw_aast (C : mx_C E p m c cc nL s args own meth ret) (hX : xOK E) (hM : mx_H E s M H locs) {k n v : Nat} (hT : E.1[k]? = some (.inr (7, n))) (hv : v < 24) {i : Int32} {j : Nat} (hj : i.toNatClampNeg = j) (hin : vp_in i n) (hdg : decode cc pc = .ok (.aastore, 1))
    (kk : ∀ (H : Heap) (locs : List Loc), mx_H E s (mx_sr M k j v) H locs → W p l e R s m args below meth c H locs cells slots Q (F0 m (pc + 1) ls rest)) : W p l e R s m args below meth c H locs cells slots Q (F0 m pc ls (.ref (E.2.1.2.2.1 v) :: .int i :: .ref (E.2.1.2.1 k) :: rest)) := by
  subst hj
  have hO := ((hX.2 s C.2.2.1).1 v hv).2.1.kept hM.2.2.1
  obtain ⟨⟨hx, hb, hml, hown, hts⟩, hK, hG, hE, hlo, hr⟩ := C
  obtain ⟨cellV, g1, g2, g3, -⟩ := hO
  refine vb_astq hx hb hK hM.1 (hE.1 M) hM.2 k 7 (E := RX11) (C := RX11) (mx_arr (t := 3) hT) rfl ⟨cellV, g1, g2, g3⟩ (fun comp c0 h1 h2 => by
    have h3 : comp = c0 := Option.some.inj (h1.symm.trans h2)
    rw [h3]
    exact va_asg _ _) hin hdg (fun H1 locs1 hP hD hS => kk H1 locs1 ⟨?_, hS⟩)
  have h2 : (.inl (E.2.1.2.2.2 7, n, .inr (.inr (.inr (.inr (va_up (fun i => some (mx_rad E.2.1 (3 + 4) (M.2.2 k i))) i.toNatClampNeg (some (E.2.1.2.2.1 v))))))) : va_E) = mx_E E.2.1 (mx_sr M k i.toNatClampNeg v) k (.inr (7, n)) := by
    have h3 := mx_sr_eq (E := E) (M := M) (k := k) (j := i.toNatClampNeg) (v := v) (t := 7)
    simp only [mx_E, mx_ct, h3]
    rfl
  rw [show ((mx_ws E.1 E.2.1 M).set k (E.2.1.2.1 k, .inl (E.2.1.2.2.2 (3 + 4), n, .inr (.inr (.inr (.inr (va_up (fun i => some (mx_rad E.2.1 (3 + 4) (M.2.2 k i))) i.toNatClampNeg (some (E.2.1.2.2.1 v))))))))) = (mx_ws E.1 E.2.1 M).set k (E.2.1.2.1 k, mx_E E.2.1 (mx_sr M k i.toNatClampNeg v) k (.inr (7, n))) from by rw [← h2], mx_setR hT] at hP
  exact hP
theorem xt_0 (h : xOK E) : E.1[0]? = some (.inl (12, [(2, 1), (2, 3), (2, 9), (2, 19), (2, 29), (2, 38), (2, 47), (2, 56), (2, 130), (2, 134), (2, 138), (2, 143), (2, 149), (2, 152), (2, 154), (2, 155), (2, 156), (2, 157), (0, 0)])) := by rw [h.1]; rfl
theorem xt_1 (h : xOK E) : E.1[1]? = some (.inl (10, [(2, 2), (0, 0)])) := by rw [h.1]; rfl
theorem xt_2 (h : xOK E) : E.1[2]? = some (.inr (1, 940)) := by rw [h.1]; rfl
theorem xt_3 (h : xOK E) : E.1[3]? = some (.inl (7, [(2, 1), (2, 4), (2, 5), (2, 6), (2, 7), (2, 8), (0, 0), (0, 0), (0, 0), (0, 0), (0, 0), (0, 0)])) := by rw [h.1]; rfl
theorem xt_4 (h : xOK E) : E.1[4]? = some (.inr (0, 941)) := by rw [h.1]; rfl
theorem xt_5 (h : xOK E) : E.1[5]? = some (.inr (0, 941)) := by rw [h.1]; rfl
theorem xt_6 (h : xOK E) : E.1[6]? = some (.inr (0, 941)) := by rw [h.1]; rfl
theorem xt_7 (h : xOK E) : E.1[7]? = some (.inr (2, 941)) := by rw [h.1]; rfl
theorem xt_8 (h : xOK E) : E.1[8]? = some (.inr (7, 941)) := by rw [h.1]; rfl
theorem xt_9 (h : xOK E) : E.1[9]? = some (.inl (3, [(0, 0), (0, 0), (2, 10), (2, 11), (2, 12), (2, 13), (2, 14), (2, 15), (2, 16), (2, 17), (2, 18), (0, 0), (0, 0), (0, 0), (0, 0), (0, 0), (0, 0), (0, 0)])) := by rw [h.1]; rfl
theorem xt_10 (h : xOK E) : E.1[10]? = some (.inr (2, 7)) := by rw [h.1]; rfl
theorem xt_11 (h : xOK E) : E.1[11]? = some (.inr (0, 7)) := by rw [h.1]; rfl
theorem xt_12 (h : xOK E) : E.1[12]? = some (.inr (0, 7)) := by rw [h.1]; rfl
theorem xt_13 (h : xOK E) : E.1[13]? = some (.inr (0, 7)) := by rw [h.1]; rfl
theorem xt_14 (h : xOK E) : E.1[14]? = some (.inr (2, 7)) := by rw [h.1]; rfl
theorem xt_15 (h : xOK E) : E.1[15]? = some (.inr (0, 7)) := by rw [h.1]; rfl
theorem xt_16 (h : xOK E) : E.1[16]? = some (.inr (0, 7)) := by rw [h.1]; rfl
theorem xt_17 (h : xOK E) : E.1[17]? = some (.inr (0, 7)) := by rw [h.1]; rfl
theorem xt_18 (h : xOK E) : E.1[18]? = some (.inr (0, 7)) := by rw [h.1]; rfl
theorem xt_19 (h : xOK E) : E.1[19]? = some (.inl (3, [(0, 0), (0, 0), (2, 20), (2, 21), (2, 22), (2, 23), (2, 24), (2, 25), (2, 26), (2, 27), (2, 28), (0, 0), (0, 0), (0, 0), (0, 0), (0, 0), (0, 0), (0, 0)])) := by rw [h.1]; rfl
theorem xt_20 (h : xOK E) : E.1[20]? = some (.inr (2, 7)) := by rw [h.1]; rfl
theorem xt_21 (h : xOK E) : E.1[21]? = some (.inr (0, 7)) := by rw [h.1]; rfl
theorem xt_22 (h : xOK E) : E.1[22]? = some (.inr (0, 7)) := by rw [h.1]; rfl
theorem xt_23 (h : xOK E) : E.1[23]? = some (.inr (0, 7)) := by rw [h.1]; rfl
theorem xt_24 (h : xOK E) : E.1[24]? = some (.inr (2, 7)) := by rw [h.1]; rfl
theorem xt_25 (h : xOK E) : E.1[25]? = some (.inr (0, 7)) := by rw [h.1]; rfl
theorem xt_26 (h : xOK E) : E.1[26]? = some (.inr (0, 7)) := by rw [h.1]; rfl
theorem xt_27 (h : xOK E) : E.1[27]? = some (.inr (0, 7)) := by rw [h.1]; rfl
theorem xt_28 (h : xOK E) : E.1[28]? = some (.inr (0, 7)) := by rw [h.1]; rfl
theorem xt_29 (h : xOK E) : E.1[29]? = some (.inl (9, [(2, 9), (2, 30), (2, 31), (2, 32), (2, 33), (2, 34), (2, 35), (2, 36), (2, 37), (0, 0), (0, 0), (0, 0), (0, 0)])) := by rw [h.1]; rfl
theorem xt_30 (h : xOK E) : E.1[30]? = some (.inr (0, 7)) := by rw [h.1]; rfl
theorem xt_31 (h : xOK E) : E.1[31]? = some (.inr (0, 7)) := by rw [h.1]; rfl
theorem xt_32 (h : xOK E) : E.1[32]? = some (.inr (0, 7)) := by rw [h.1]; rfl
theorem xt_33 (h : xOK E) : E.1[33]? = some (.inr (0, 7)) := by rw [h.1]; rfl
theorem xt_34 (h : xOK E) : E.1[34]? = some (.inr (0, 7)) := by rw [h.1]; rfl
theorem xt_35 (h : xOK E) : E.1[35]? = some (.inr (0, 7)) := by rw [h.1]; rfl
theorem xt_36 (h : xOK E) : E.1[36]? = some (.inr (0, 7)) := by rw [h.1]; rfl
theorem xt_37 (h : xOK E) : E.1[37]? = some (.inr (0, 7)) := by rw [h.1]; rfl
theorem xt_38 (h : xOK E) : E.1[38]? = some (.inl (9, [(2, 9), (2, 39), (2, 40), (2, 41), (2, 42), (2, 43), (2, 44), (2, 45), (2, 46), (0, 0), (0, 0), (0, 0), (0, 0)])) := by rw [h.1]; rfl
theorem xt_47 (h : xOK E) : E.1[47]? = some (.inl (9, [(2, 9), (2, 48), (2, 49), (2, 50), (2, 51), (2, 52), (2, 53), (2, 54), (2, 55), (0, 0), (0, 0), (0, 0), (0, 0)])) := by rw [h.1]; rfl
theorem xt_56 (h : xOK E) : E.1[56]? = some (.inl (5, [(2, 57), (0, 0)])) := by rw [h.1]; rfl
theorem xt_57 (h : xOK E) : E.1[57]? = some (.inr (4, 8)) := by rw [h.1]; rfl
theorem xt_130 (h : xOK E) : E.1[130]? = some (.inl (8, [(2, 131), (2, 132), (2, 133), (0, 0), (0, 0)])) := by rw [h.1]; rfl
theorem xt_131 (h : xOK E) : E.1[131]? = some (.inr (7, 40)) := by rw [h.1]; rfl
theorem xt_132 (h : xOK E) : E.1[132]? = some (.inr (0, 40)) := by rw [h.1]; rfl
theorem xt_133 (h : xOK E) : E.1[133]? = some (.inr (0, 40)) := by rw [h.1]; rfl
theorem xt_134 (h : xOK E) : E.1[134]? = some (.inl (8, [(2, 135), (2, 136), (2, 137), (0, 0), (0, 0)])) := by rw [h.1]; rfl
theorem xt_135 (h : xOK E) : E.1[135]? = some (.inr (7, 40)) := by rw [h.1]; rfl
theorem xt_136 (h : xOK E) : E.1[136]? = some (.inr (0, 40)) := by rw [h.1]; rfl
theorem xt_137 (h : xOK E) : E.1[137]? = some (.inr (0, 40)) := by rw [h.1]; rfl
theorem xt_138 (h : xOK E) : E.1[138]? = some (.inl (1, [(2, 139), (2, 140), (2, 141), (2, 142), (0, 0), (0, 0), (0, 0), (0, 0), (0, 0), (0, 0)])) := by rw [h.1]; rfl
theorem xt_139 (h : xOK E) : E.1[139]? = some (.inr (0, 40)) := by rw [h.1]; rfl
theorem xt_140 (h : xOK E) : E.1[140]? = some (.inr (0, 40)) := by rw [h.1]; rfl
theorem xt_141 (h : xOK E) : E.1[141]? = some (.inr (0, 40)) := by rw [h.1]; rfl
theorem xt_142 (h : xOK E) : E.1[142]? = some (.inr (0, 40)) := by rw [h.1]; rfl
theorem xt_143 (h : xOK E) : E.1[143]? = some (.inl (6, [(2, 144), (0, 0), (2, 145), (0, 0), (2, 146), (2, 147), (2, 148)])) := by rw [h.1]; rfl
theorem xt_144 (h : xOK E) : E.1[144]? = some (.inr (0, 7)) := by rw [h.1]; rfl
theorem xt_145 (h : xOK E) : E.1[145]? = some (.inr (0, 7)) := by rw [h.1]; rfl
theorem xt_146 (h : xOK E) : E.1[146]? = some (.inr (0, 896)) := by rw [h.1]; rfl
theorem xt_147 (h : xOK E) : E.1[147]? = some (.inr (0, 128)) := by rw [h.1]; rfl
theorem xt_148 (h : xOK E) : E.1[148]? = some (.inr (0, 7)) := by rw [h.1]; rfl
theorem xt_149 (h : xOK E) : E.1[149]? = some (.inl (2, [(0, 0), (0, 0), (2, 150), (2, 151)])) := by rw [h.1]; rfl
theorem xt_150 (h : xOK E) : E.1[150]? = some (.inr (0, 128)) := by rw [h.1]; rfl
theorem xt_151 (h : xOK E) : E.1[151]? = some (.inr (0, 7)) := by rw [h.1]; rfl
theorem xt_152 (h : xOK E) : E.1[152]? = some (.inl (4, [(2, 153), (0, 0)])) := by rw [h.1]; rfl
theorem xt_153 (h : xOK E) : E.1[153]? = some (.inr (1, 128)) := by rw [h.1]; rfl
theorem xt_154 (h : xOK E) : E.1[154]? = some (.inr (5, 2)) := by rw [h.1]; rfl
theorem xt_155 (h : xOK E) : E.1[155]? = some (.inr (4, 2)) := by rw [h.1]; rfl
theorem xt_156 (h : xOK E) : E.1[156]? = some (.inr (6, 2)) := by rw [h.1]; rfl
theorem xt_157 (h : xOK E) : E.1[157]? = some (.inr (3, 2)) := by rw [h.1]; rfl
theorem xiI_9 : xt_isI 9 = true := by decide
theorem xiI_19 : xt_isI 19 = true := by decide
theorem xiN_130 : xt_isN 130 = true := by decide
theorem xiN_134 : xt_isN 134 = true := by decide
theorem xiS_29 : xt_isS 29 = true := by decide
theorem xiS_38 : xt_isS 38 = true := by decide
theorem xiS_47 : xt_isS 47 = true := by decide
theorem xoI {o : Nat} (h : xOK E) (ho : xt_isI o = true) : E.1[o]? = some (.inl (3, [(0, 0), (0, 0), (2, o + 1), (2, o + 2), (2, o + 3), (2, o + 4), (2, o + 5), (2, o + 6), (2, o + 7), (2, o + 8), (2, o + 9), (0, 0), (0, 0), (0, 0), (0, 0), (0, 0), (0, 0), (0, 0)])) := by
  rw [h.1]
  simp only [xt_isI, Bool.or_eq_true, beq_iff_eq] at ho
  rcases ho with (((rfl | rfl) | rfl) | rfl) <;> rfl
theorem xaI_1 {o : Nat} (h : xOK E) (ho : xt_isI o = true) : E.1[o + 1]? = some (.inr (2, 7)) := by
  rw [h.1]
  simp only [xt_isI, Bool.or_eq_true, beq_iff_eq] at ho
  rcases ho with (((rfl | rfl) | rfl) | rfl) <;> rfl
theorem xaI_2 {o : Nat} (h : xOK E) (ho : xt_isI o = true) : E.1[o + 2]? = some (.inr (0, 7)) := by
  rw [h.1]
  simp only [xt_isI, Bool.or_eq_true, beq_iff_eq] at ho
  rcases ho with (((rfl | rfl) | rfl) | rfl) <;> rfl
theorem xaI_3 {o : Nat} (h : xOK E) (ho : xt_isI o = true) : E.1[o + 3]? = some (.inr (0, 7)) := by
  rw [h.1]
  simp only [xt_isI, Bool.or_eq_true, beq_iff_eq] at ho
  rcases ho with (((rfl | rfl) | rfl) | rfl) <;> rfl
theorem xaI_4 {o : Nat} (h : xOK E) (ho : xt_isI o = true) : E.1[o + 4]? = some (.inr (0, 7)) := by
  rw [h.1]
  simp only [xt_isI, Bool.or_eq_true, beq_iff_eq] at ho
  rcases ho with (((rfl | rfl) | rfl) | rfl) <;> rfl
theorem xaI_5 {o : Nat} (h : xOK E) (ho : xt_isI o = true) : E.1[o + 5]? = some (.inr (2, 7)) := by
  rw [h.1]
  simp only [xt_isI, Bool.or_eq_true, beq_iff_eq] at ho
  rcases ho with (((rfl | rfl) | rfl) | rfl) <;> rfl
theorem xaI_6 {o : Nat} (h : xOK E) (ho : xt_isI o = true) : E.1[o + 6]? = some (.inr (0, 7)) := by
  rw [h.1]
  simp only [xt_isI, Bool.or_eq_true, beq_iff_eq] at ho
  rcases ho with (((rfl | rfl) | rfl) | rfl) <;> rfl
theorem xaI_7 {o : Nat} (h : xOK E) (ho : xt_isI o = true) : E.1[o + 7]? = some (.inr (0, 7)) := by
  rw [h.1]
  simp only [xt_isI, Bool.or_eq_true, beq_iff_eq] at ho
  rcases ho with (((rfl | rfl) | rfl) | rfl) <;> rfl
theorem xaI_8 {o : Nat} (h : xOK E) (ho : xt_isI o = true) : E.1[o + 8]? = some (.inr (0, 7)) := by
  rw [h.1]
  simp only [xt_isI, Bool.or_eq_true, beq_iff_eq] at ho
  rcases ho with (((rfl | rfl) | rfl) | rfl) <;> rfl
theorem xaI_9 {o : Nat} (h : xOK E) (ho : xt_isI o = true) : E.1[o + 9]? = some (.inr (0, 7)) := by
  rw [h.1]
  simp only [xt_isI, Bool.or_eq_true, beq_iff_eq] at ho
  rcases ho with (((rfl | rfl) | rfl) | rfl) <;> rfl
theorem xoS {o : Nat} (h : xOK E) (ho : xt_isS o = true) : E.1[o]? = some (.inl (9, [(2, 9), (2, o + 1), (2, o + 2), (2, o + 3), (2, o + 4), (2, o + 5), (2, o + 6), (2, o + 7), (2, o + 8), (0, 0), (0, 0), (0, 0), (0, 0)])) := by
  rw [h.1]
  simp only [xt_isS, Bool.or_eq_true, beq_iff_eq] at ho
  rcases ho with ((((((((((((rfl | rfl) | rfl) | rfl) | rfl) | rfl) | rfl) | rfl) | rfl) | rfl) | rfl) | rfl) | rfl) <;> rfl
theorem xaS_1 {o : Nat} (h : xOK E) (ho : xt_isS o = true) : E.1[o + 1]? = some (.inr (0, 7)) := by
  rw [h.1]
  simp only [xt_isS, Bool.or_eq_true, beq_iff_eq] at ho
  rcases ho with ((((((((((((rfl | rfl) | rfl) | rfl) | rfl) | rfl) | rfl) | rfl) | rfl) | rfl) | rfl) | rfl) | rfl) <;> rfl
theorem xaS_2 {o : Nat} (h : xOK E) (ho : xt_isS o = true) : E.1[o + 2]? = some (.inr (0, 7)) := by
  rw [h.1]
  simp only [xt_isS, Bool.or_eq_true, beq_iff_eq] at ho
  rcases ho with ((((((((((((rfl | rfl) | rfl) | rfl) | rfl) | rfl) | rfl) | rfl) | rfl) | rfl) | rfl) | rfl) | rfl) <;> rfl
theorem xaS_3 {o : Nat} (h : xOK E) (ho : xt_isS o = true) : E.1[o + 3]? = some (.inr (0, 7)) := by
  rw [h.1]
  simp only [xt_isS, Bool.or_eq_true, beq_iff_eq] at ho
  rcases ho with ((((((((((((rfl | rfl) | rfl) | rfl) | rfl) | rfl) | rfl) | rfl) | rfl) | rfl) | rfl) | rfl) | rfl) <;> rfl
theorem xaS_4 {o : Nat} (h : xOK E) (ho : xt_isS o = true) : E.1[o + 4]? = some (.inr (0, 7)) := by
  rw [h.1]
  simp only [xt_isS, Bool.or_eq_true, beq_iff_eq] at ho
  rcases ho with ((((((((((((rfl | rfl) | rfl) | rfl) | rfl) | rfl) | rfl) | rfl) | rfl) | rfl) | rfl) | rfl) | rfl) <;> rfl
theorem xaS_5 {o : Nat} (h : xOK E) (ho : xt_isS o = true) : E.1[o + 5]? = some (.inr (0, 7)) := by
  rw [h.1]
  simp only [xt_isS, Bool.or_eq_true, beq_iff_eq] at ho
  rcases ho with ((((((((((((rfl | rfl) | rfl) | rfl) | rfl) | rfl) | rfl) | rfl) | rfl) | rfl) | rfl) | rfl) | rfl) <;> rfl
theorem xaS_6 {o : Nat} (h : xOK E) (ho : xt_isS o = true) : E.1[o + 6]? = some (.inr (0, 7)) := by
  rw [h.1]
  simp only [xt_isS, Bool.or_eq_true, beq_iff_eq] at ho
  rcases ho with ((((((((((((rfl | rfl) | rfl) | rfl) | rfl) | rfl) | rfl) | rfl) | rfl) | rfl) | rfl) | rfl) | rfl) <;> rfl
theorem xaS_7 {o : Nat} (h : xOK E) (ho : xt_isS o = true) : E.1[o + 7]? = some (.inr (0, 7)) := by
  rw [h.1]
  simp only [xt_isS, Bool.or_eq_true, beq_iff_eq] at ho
  rcases ho with ((((((((((((rfl | rfl) | rfl) | rfl) | rfl) | rfl) | rfl) | rfl) | rfl) | rfl) | rfl) | rfl) | rfl) <;> rfl
theorem xaS_8 {o : Nat} (h : xOK E) (ho : xt_isS o = true) : E.1[o + 8]? = some (.inr (0, 7)) := by
  rw [h.1]
  simp only [xt_isS, Bool.or_eq_true, beq_iff_eq] at ho
  rcases ho with ((((((((((((rfl | rfl) | rfl) | rfl) | rfl) | rfl) | rfl) | rfl) | rfl) | rfl) | rfl) | rfl) | rfl) <;> rfl
theorem xoN {o : Nat} (h : xOK E) (ho : xt_isN o = true) : E.1[o]? = some (.inl (8, [(2, o + 1), (2, o + 2), (2, o + 3), (0, 0), (0, 0)])) := by
  rw [h.1]
  simp only [xt_isN, Bool.or_eq_true, beq_iff_eq] at ho
  rcases ho with (((rfl | rfl) | rfl) | rfl) <;> rfl
theorem xaN_1 {o : Nat} (h : xOK E) (ho : xt_isN o = true) : E.1[o + 1]? = some (.inr (7, 40)) := by
  rw [h.1]
  simp only [xt_isN, Bool.or_eq_true, beq_iff_eq] at ho
  rcases ho with (((rfl | rfl) | rfl) | rfl) <;> rfl
theorem xaN_2 {o : Nat} (h : xOK E) (ho : xt_isN o = true) : E.1[o + 2]? = some (.inr (0, 40)) := by
  rw [h.1]
  simp only [xt_isN, Bool.or_eq_true, beq_iff_eq] at ho
  rcases ho with (((rfl | rfl) | rfl) | rfl) <;> rfl
theorem xaN_3 {o : Nat} (h : xOK E) (ho : xt_isN o = true) : E.1[o + 3]? = some (.inr (0, 40)) := by
  rw [h.1]
  simp only [xt_isN, Bool.or_eq_true, beq_iff_eq] at ho
  rcases ho with (((rfl | rfl) | rfl) | rfl) <;> rfl
theorem cl_1 : mx_Cl 1 RX1 TX1 10 tyX1 := ⟨rfl, mx_ws_in [507, 509, 511, 513, 515, 517, 519, 521, 523, 525] (by decide +kernel) (by decide +kernel), tyX1_ok, nmX1⟩
theorem cl_2 : mx_Cl 2 RX2 TX2 4 tyX2 := ⟨rfl, mx_ws_in [572, 574, 576, 578] (by decide +kernel) (by decide +kernel), tyX2_ok, nmX2⟩
theorem cl_3 : mx_Cl 3 RX3 TX3 18 tyX3 := ⟨rfl, mx_ws_in [345, 347, 349, 351, 353, 355, 357, 359, 361, 363, 365, 367, 369, 371, 373, 375, 377, 379] (by decide +kernel) (by decide +kernel), tyX3_ok, nmX3⟩
theorem cl_4 : mx_Cl 4 RX4 TX4 2 tyX4 := ⟨rfl, mx_ws_in [591, 593] (by decide +kernel) (by decide +kernel), tyX4_ok, nmX4⟩
theorem cl_5 : mx_Cl 5 RX5 TX5 2 tyX5 := ⟨rfl, mx_ws_in [456, 458] (by decide +kernel) (by decide +kernel), tyX5_ok, nmX5⟩
theorem cl_6 : mx_Cl 6 RX6 TX6 7 tyX6 := ⟨rfl, mx_ws_in [545, 547, 549, 551, 553, 555, 557] (by decide +kernel) (by decide +kernel), tyX6_ok, nmX6⟩
theorem cl_7 : mx_Cl 7 RX7 TX7 12 tyX7 := ⟨rfl, mx_ws_in [263, 265, 267, 269, 271, 273, 275, 277, 279, 281, 283, 285] (by decide +kernel) (by decide +kernel), tyX7_ok, nmX7⟩
theorem cl_8 : mx_Cl 8 RX8 TX8 5 tyX8 := ⟨rfl, mx_ws_in [475, 477, 479, 481, 483] (by decide +kernel) (by decide +kernel), tyX8_ok, nmX8⟩
theorem cl_9 : mx_Cl 9 RX9 TX9 13 tyX9 := ⟨rfl, mx_ws_in [417, 419, 421, 423, 425, 427, 429, 431, 433, 435, 437, 439, 441] (by decide +kernel) (by decide +kernel), tyX9_ok, nmX9⟩
theorem cl_10 : mx_Cl 10 RX10 TX10 2 tyX10 := ⟨rfl, mx_ws_in [230, 232] (by decide +kernel) (by decide +kernel), tyX10_ok, nmX10⟩
theorem cl_12 : mx_Cl 12 RX12 TX12 19 tyX12 := ⟨rfl, mx_ws_in [617, 619, 621, 623, 625, 627, 629, 631, 633, 635, 637, 639, 641, 643, 645, 647, 649, 651, 653] (by decide +kernel) (by decide +kernel), tyX12_ok, nmX12⟩
theorem nw_43 (hT : xOK E) (C : mx_C E p m c cc nL s args own meth ret) : va_Nw (Jvm.Cond.fieldLinkNest "RingKeepers" (119 : Nat) "RingKeepers$Tape" "length" "I" "RingKeepers") s := xnw hT C 227 (by decide +kernel) rfl
theorem nw_44 (hT : xOK E) (C : mx_C E p m c cc nL s args own meth ret) : va_Nw (Jvm.Cond.fieldLinkNest "RingKeepers$Fitting" (43 : Nat) "RingKeepers$Tape" "length" "I" "RingKeepers") s := xnw hT C 228 (by decide +kernel) rfl
theorem nw_45 (hT : xOK E) (C : mx_C E p m c cc nL s args own meth ret) : va_Nw (Jvm.Cond.fieldLinkNest "RingKeepers$Reader" (61 : Nat) "RingKeepers$Tape" "length" "I" "RingKeepers") s := xnw hT C 229 (by decide +kernel) rfl
theorem nw_71 (hT : xOK E) (C : mx_C E p m c cc nL s args own meth ret) : va_Nw (Jvm.Cond.fieldLinkNest "RingKeepers$Book" (74 : Nat) "RingKeepers$Reader" "taken" "I" "RingKeepers") s := xnw hT C 255 (by decide +kernel) rfl
theorem nw_72 (hT : xOK E) (C : mx_C E p m c cc nL s args own meth ret) : va_Nw (Jvm.Cond.fieldLinkNest "RingKeepers$Sentence" (135 : Nat) "RingKeepers$Reader" "taken" "I" "RingKeepers") s := xnw hT C 256 (by decide +kernel) rfl
theorem nw_73 (hT : xOK E) (C : mx_C E p m c cc nL s args own meth ret) : va_Nw (Jvm.Cond.fieldLinkNest "RingKeepers$Island" (139 : Nat) "RingKeepers$Reader" "taken" "I" "RingKeepers") s := xnw hT C 257 (by decide +kernel) rfl
theorem nw_76 (hT : xOK E) (C : mx_C E p m c cc nL s args own meth ret) : va_Nw (Jvm.Cond.fieldLinkNest "RingKeepers" (137 : Nat) "RingKeepers$Reader" "faultKind" "I" "RingKeepers") s := xnw hT C 260 (by decide +kernel) rfl
theorem nw_78 (hT : xOK E) (C : mx_C E p m c cc nL s args own meth ret) : va_Nw (Jvm.Cond.fieldLinkNest "RingKeepers" (141 : Nat) "RingKeepers$Reader" "faultAt" "I" "RingKeepers") s := xnw hT C 262 (by decide +kernel) rfl
theorem nw_113 (hT : xOK E) (C : mx_C E p m c cc nL s args own meth ret) : va_Nw (Jvm.Cond.fieldLinkNest "RingKeepers$State" (40 : Nat) "RingKeepers$Island" "persons" "I" "RingKeepers") s := xnw hT C 297 (by decide +kernel) rfl
theorem nw_114 (hT : xOK E) (C : mx_C E p m c cc nL s args own meth ret) : va_Nw (Jvm.Cond.fieldLinkNest "RingKeepers$Plans" (41 : Nat) "RingKeepers$Island" "persons" "I" "RingKeepers") s := xnw hT C 298 (by decide +kernel) rfl
theorem nw_115 (hT : xOK E) (C : mx_C E p m c cc nL s args own meth ret) : va_Nw (Jvm.Cond.fieldLinkNest "RingKeepers$Fitting" (61 : Nat) "RingKeepers$Island" "persons" "I" "RingKeepers") s := xnw hT C 299 (by decide +kernel) rfl
theorem nw_116 (hT : xOK E) (C : mx_C E p m c cc nL s args own meth ret) : va_Nw (Jvm.Cond.fieldLinkNest "RingKeepers" (365 : Nat) "RingKeepers$Island" "persons" "I" "RingKeepers") s := xnw hT C 300 (by decide +kernel) rfl
theorem nw_117 (hT : xOK E) (C : mx_C E p m c cc nL s args own meth ret) : va_Nw (Jvm.Cond.fieldLinkNest "RingKeepers$State" (52 : Nat) "RingKeepers$Island" "rings" "I" "RingKeepers") s := xnw hT C 301 (by decide +kernel) rfl
theorem nw_118 (hT : xOK E) (C : mx_C E p m c cc nL s args own meth ret) : va_Nw (Jvm.Cond.fieldLinkNest "RingKeepers$Note" (59 : Nat) "RingKeepers$Island" "rings" "I" "RingKeepers") s := xnw hT C 302 (by decide +kernel) rfl
theorem nw_120 (hT : xOK E) (C : mx_C E p m c cc nL s args own meth ret) : va_Nw (Jvm.Cond.fieldLinkNest "RingKeepers$Plans" (54 : Nat) "RingKeepers$Island" "rings" "I" "RingKeepers") s := xnw hT C 304 (by decide +kernel) rfl
theorem nw_121 (hT : xOK E) (C : mx_C E p m c cc nL s args own meth ret) : va_Nw (Jvm.Cond.fieldLinkNest "RingKeepers$Fitting" (76 : Nat) "RingKeepers$Island" "rings" "I" "RingKeepers") s := xnw hT C 305 (by decide +kernel) rfl
theorem nw_122 (hT : xOK E) (C : mx_C E p m c cc nL s args own meth ret) : va_Nw (Jvm.Cond.fieldLinkNest "RingKeepers" (269 : Nat) "RingKeepers$Island" "rings" "I" "RingKeepers") s := xnw hT C 306 (by decide +kernel) rfl
theorem nw_124 (hT : xOK E) (C : mx_C E p m c cc nL s args own meth ret) : va_Nw (Jvm.Cond.fieldLinkNest "RingKeepers$Note" (32 : Nat) "RingKeepers$Island" "personName" "[J" "RingKeepers") s := xnw hT C 308 (by decide +kernel) rfl
theorem nw_126 (hT : xOK E) (C : mx_C E p m c cc nL s args own meth ret) : va_Nw (Jvm.Cond.fieldLinkNest "RingKeepers$State" (46 : Nat) "RingKeepers$Island" "startX" "[I" "RingKeepers") s := xnw hT C 310 (by decide +kernel) rfl
theorem nw_128 (hT : xOK E) (C : mx_C E p m c cc nL s args own meth ret) : va_Nw (Jvm.Cond.fieldLinkNest "RingKeepers$State" (49 : Nat) "RingKeepers$Island" "startY" "[I" "RingKeepers") s := xnw hT C 312 (by decide +kernel) rfl
theorem nw_131 (hT : xOK E) (C : mx_C E p m c cc nL s args own meth ret) : va_Nw (Jvm.Cond.fieldLinkNest "RingKeepers$Sentence" (179 : Nat) "RingKeepers$Island" "finger" "[I" "RingKeepers") s := xnw hT C 315 (by decide +kernel) rfl
theorem nw_133 (hT : xOK E) (C : mx_C E p m c cc nL s args own meth ret) : va_Nw (Jvm.Cond.fieldLinkNest "RingKeepers$Note" (68 : Nat) "RingKeepers$Island" "ringName" "[J" "RingKeepers") s := xnw hT C 317 (by decide +kernel) rfl
theorem nw_135 (hT : xOK E) (C : mx_C E p m c cc nL s args own meth ret) : va_Nw (Jvm.Cond.fieldLinkNest "RingKeepers" (186 : Nat) "RingKeepers$Island" "size" "[I" "RingKeepers") s := xnw hT C 319 (by decide +kernel) rfl
theorem nw_136 (hT : xOK E) (C : mx_C E p m c cc nL s args own meth ret) : va_Nw (Jvm.Cond.fieldLinkNest "RingKeepers$Fitting" (87 : Nat) "RingKeepers$Island" "size" "[I" "RingKeepers") s := xnw hT C 320 (by decide +kernel) rfl
theorem nw_137 (hT : xOK E) (C : mx_C E p m c cc nL s args own meth ret) : va_Nw (Jvm.Cond.fieldLinkNest "RingKeepers$State" (113 : Nat) "RingKeepers$Island" "size" "[I" "RingKeepers") s := xnw hT C 321 (by decide +kernel) rfl
theorem nw_139 (hT : xOK E) (C : mx_C E p m c cc nL s args own meth ret) : va_Nw (Jvm.Cond.fieldLinkNest "RingKeepers$Note" (62 : Nat) "RingKeepers$Island" "owner" "[I" "RingKeepers") s := xnw hT C 323 (by decide +kernel) rfl
theorem nw_140 (hT : xOK E) (C : mx_C E p m c cc nL s args own meth ret) : va_Nw (Jvm.Cond.fieldLinkNest "RingKeepers$Plans" (61 : Nat) "RingKeepers$Island" "owner" "[I" "RingKeepers") s := xnw hT C 324 (by decide +kernel) rfl
theorem nw_142 (hT : xOK E) (C : mx_C E p m c cc nL s args own meth ret) : va_Nw (Jvm.Cond.fieldLinkNest "RingKeepers$State" (87 : Nat) "RingKeepers$Island" "owner" "[I" "RingKeepers") s := xnw hT C 326 (by decide +kernel) rfl
theorem nw_144 (hT : xOK E) (C : mx_C E p m c cc nL s args own meth ret) : va_Nw (Jvm.Cond.fieldLinkNest "RingKeepers$State" (55 : Nat) "RingKeepers$Island" "keeper" "[I" "RingKeepers") s := xnw hT C 328 (by decide +kernel) rfl
theorem nw_146 (hT : xOK E) (C : mx_C E p m c cc nL s args own meth ret) : va_Nw (Jvm.Cond.fieldLinkNest "RingKeepers" (195 : Nat) "RingKeepers$Island" "due" "[I" "RingKeepers") s := xnw hT C 330 (by decide +kernel) rfl
theorem nw_147 (hT : xOK E) (C : mx_C E p m c cc nL s args own meth ret) : va_Nw (Jvm.Cond.fieldLinkNest "RingKeepers$State" (123 : Nat) "RingKeepers$Island" "due" "[I" "RingKeepers") s := xnw hT C 331 (by decide +kernel) rfl
theorem nw_149 (hT : xOK E) (C : mx_C E p m c cc nL s args own meth ret) : va_Nw (Jvm.Cond.fieldLinkNest "RingKeepers" (372 : Nat) "RingKeepers$Island" "fit" "I" "RingKeepers") s := xnw hT C 333 (by decide +kernel) rfl
theorem nw_151 (hT : xOK E) (C : mx_C E p m c cc nL s args own meth ret) : va_Nw (Jvm.Cond.fieldLinkNest "RingKeepers$State" (76 : Nat) "RingKeepers$Island" "walk" "I" "RingKeepers") s := xnw hT C 335 (by decide +kernel) rfl
theorem nw_152 (hT : xOK E) (C : mx_C E p m c cc nL s args own meth ret) : va_Nw (Jvm.Cond.fieldLinkNest "RingKeepers" (375 : Nat) "RingKeepers$Island" "walk" "I" "RingKeepers") s := xnw hT C 336 (by decide +kernel) rfl
theorem nw_154 (hT : xOK E) (C : mx_C E p m c cc nL s args own meth ret) : va_Nw (Jvm.Cond.fieldLinkNest "RingKeepers$State" (137 : Nat) "RingKeepers$Island" "jingle" "I" "RingKeepers") s := xnw hT C 338 (by decide +kernel) rfl
theorem nw_155 (hT : xOK E) (C : mx_C E p m c cc nL s args own meth ret) : va_Nw (Jvm.Cond.fieldLinkNest "RingKeepers" (378 : Nat) "RingKeepers$Island" "jingle" "I" "RingKeepers") s := xnw hT C 339 (by decide +kernel) rfl
theorem nw_156 (hT : xOK E) (C : mx_C E p m c cc nL s args own meth ret) : va_Nw (Jvm.Cond.fieldLinkNest "RingKeepers" (152 : Nat) "RingKeepers$Island" "lines" "I" "RingKeepers") s := xnw hT C 340 (by decide +kernel) rfl
theorem nw_205 (hT : xOK E) (C : mx_C E p m c cc nL s args own meth ret) : va_Nw (Jvm.Cond.fieldLinkNest "RingKeepers$Note" (15 : Nat) "RingKeepers$State" "land" "LRingKeepers$Island;" "RingKeepers") s := xnw hT C 389 (by decide +kernel) rfl
theorem nw_206 (hT : xOK E) (C : mx_C E p m c cc nL s args own meth ret) : va_Nw (Jvm.Cond.fieldLinkNest "RingKeepers$Plans" (35 : Nat) "RingKeepers$State" "land" "LRingKeepers$Island;" "RingKeepers") s := xnw hT C 390 (by decide +kernel) rfl
theorem nw_207 (hT : xOK E) (C : mx_C E p m c cc nL s args own meth ret) : va_Nw (Jvm.Cond.fieldLinkNest "RingKeepers$Sentence" (152 : Nat) "RingKeepers$State" "land" "LRingKeepers$Island;" "RingKeepers") s := xnw hT C 391 (by decide +kernel) rfl
theorem nw_214 (hT : xOK E) (C : mx_C E p m c cc nL s args own meth ret) : va_Nw (Jvm.Cond.fieldLinkNest "RingKeepers$Sentence" (176 : Nat) "RingKeepers$State" "steps" "[I" "RingKeepers") s := xnw hT C 398 (by decide +kernel) rfl
theorem nw_217 (hT : xOK E) (C : mx_C E p m c cc nL s args own meth ret) : va_Nw (Jvm.Cond.fieldLinkNest "RingKeepers$Plans" (113 : Nat) "RingKeepers$State" "holder" "[I" "RingKeepers") s := xnw hT C 401 (by decide +kernel) rfl
theorem nw_220 (hT : xOK E) (C : mx_C E p m c cc nL s args own meth ret) : va_Nw (Jvm.Cond.fieldLinkNest "RingKeepers$Plans" (84 : Nat) "RingKeepers$State" "how" "[I" "RingKeepers") s := xnw hT C 404 (by decide +kernel) rfl
theorem nw_224 (hT : xOK E) (C : mx_C E p m c cc nL s args own meth ret) : va_Nw (Jvm.Cond.fieldLinkNest "RingKeepers" (201 : Nat) "RingKeepers$State" "outcome" "[I" "RingKeepers") s := xnw hT C 408 (by decide +kernel) rfl
theorem nw_226 (hT : xOK E) (C : mx_C E p m c cc nL s args own meth ret) : va_Nw (Jvm.Cond.fieldLinkNest "RingKeepers" (214 : Nat) "RingKeepers$State" "day" "I" "RingKeepers") s := xnw hT C 410 (by decide +kernel) rfl
theorem nw_227 (hT : xOK E) (C : mx_C E p m c cc nL s args own meth ret) : va_Nw (Jvm.Cond.fieldLinkNest "RingKeepers$Book" (118 : Nat) "RingKeepers$State" "day" "I" "RingKeepers") s := xnw hT C 411 (by decide +kernel) rfl
theorem nw_229 (hT : xOK E) (C : mx_C E p m c cc nL s args own meth ret) : va_Nw (Jvm.Cond.fieldLinkNest "RingKeepers" (223 : Nat) "RingKeepers$State" "handed" "I" "RingKeepers") s := xnw hT C 413 (by decide +kernel) rfl
theorem nw_231 (hT : xOK E) (C : mx_C E p m c cc nL s args own meth ret) : va_Nw (Jvm.Cond.fieldLinkNest "RingKeepers" (226 : Nat) "RingKeepers$State" "gone" "I" "RingKeepers") s := xnw hT C 415 (by decide +kernel) rfl
theorem nw_271 (hT : xOK E) (C : mx_C E p m c cc nL s args own meth ret) : va_Nw (Jvm.Cond.fieldLinkNest "RingKeepers" (261 : Nat) "RingKeepers$Past" "size" "I" "RingKeepers") s := xnw hT C 455 (by decide +kernel) rfl
theorem nw_290 (hT : xOK E) (C : mx_C E p m c cc nL s args own meth ret) : va_Nw (Jvm.Cond.fieldLinkNest "RingKeepers" (362 : Nat) "RingKeepers$Sentence" "ones" "I" "RingKeepers") s := xnw hT C 474 (by decide +kernel) rfl
theorem nw_314 (hT : xOK E) (C : mx_C E p m c cc nL s args own meth ret) : va_Nw (Jvm.Cond.fieldLinkNest "RingKeepers" (345 : Nat) "RingKeepers$Book" "isJudged" "Z" "RingKeepers") s := xnw hT C 498 (by decide +kernel) rfl
theorem nw_316 (hT : xOK E) (C : mx_C E p m c cc nL s args own meth ret) : va_Nw (Jvm.Cond.fieldLinkNest "RingKeepers" (349 : Nat) "RingKeepers$Book" "why" "I" "RingKeepers") s := xnw hT C 500 (by decide +kernel) rfl
theorem nw_318 (hT : xOK E) (C : mx_C E p m c cc nL s args own meth ret) : va_Nw (Jvm.Cond.fieldLinkNest "RingKeepers" (339 : Nat) "RingKeepers$Book" "good" "I" "RingKeepers") s := xnw hT C 502 (by decide +kernel) rfl
theorem nw_320 (hT : xOK E) (C : mx_C E p m c cc nL s args own meth ret) : va_Nw (Jvm.Cond.fieldLinkNest "RingKeepers" (352 : Nat) "RingKeepers$Book" "dayThen" "I" "RingKeepers") s := xnw hT C 504 (by decide +kernel) rfl
theorem nw_322 (hT : xOK E) (C : mx_C E p m c cc nL s args own meth ret) : va_Nw (Jvm.Cond.fieldLinkNest "RingKeepers" (355 : Nat) "RingKeepers$Book" "lostThen" "I" "RingKeepers") s := xnw hT C 506 (by decide +kernel) rfl
theorem nw_351 (hT : xOK E) (C : mx_C E p m c cc nL s args own meth ret) : va_Nw (Jvm.Cond.fieldLinkNest "RingKeepers" (279 : Nat) "RingKeepers$Plans" "stop" "[I" "RingKeepers") s := xnw hT C 535 (by decide +kernel) rfl
theorem nw_353 (hT : xOK E) (C : mx_C E p m c cc nL s args own meth ret) : va_Nw (Jvm.Cond.fieldLinkNest "RingKeepers" (276 : Nat) "RingKeepers$Plans" "stops" "I" "RingKeepers") s := xnw hT C 537 (by decide +kernel) rfl
theorem nw_355 (hT : xOK E) (C : mx_C E p m c cc nL s args own meth ret) : va_Nw (Jvm.Cond.fieldLinkNest "RingKeepers" (286 : Nat) "RingKeepers$Plans" "keeper" "[I" "RingKeepers") s := xnw hT C 539 (by decide +kernel) rfl
theorem nw_357 (hT : xOK E) (C : mx_C E p m c cc nL s args own meth ret) : va_Nw (Jvm.Cond.fieldLinkNest "RingKeepers" (315 : Nat) "RingKeepers$Plans" "chainNext" "I" "RingKeepers") s := xnw hT C 541 (by decide +kernel) rfl
theorem nw_383 (hT : xOK E) (C : mx_C E p m c cc nL s args own meth ret) : va_Nw (Jvm.Cond.fieldLinkNest "RingKeepers" (293 : Nat) "RingKeepers$Fitting" "least" "I" "RingKeepers") s := xnw hT C 567 (by decide +kernel) rfl
theorem nw_385 (hT : xOK E) (C : mx_C E p m c cc nL s args own meth ret) : va_Nw (Jvm.Cond.fieldLinkNest "RingKeepers" (296 : Nat) "RingKeepers$Fitting" "nextPerson" "I" "RingKeepers") s := xnw hT C 569 (by decide +kernel) rfl
theorem nw_404 (hT : xOK E) (C : mx_C E p m c cc nL s args own meth ret) : va_Nw (Jvm.Cond.fieldLinkNest "RingKeepers" (323 : Nat) "RingKeepers$Note" "bytes" "[B" "RingKeepers") s := xnw hT C 588 (by decide +kernel) rfl
theorem nw_406 (hT : xOK E) (C : mx_C E p m c cc nL s args own meth ret) : va_Nw (Jvm.Cond.fieldLinkNest "RingKeepers" (322 : Nat) "RingKeepers$Note" "length" "I" "RingKeepers") s := xnw hT C 590 (by decide +kernel) rfl
theorem nw_477 (hT : xOK E) (C : mx_C E p m c cc nL s args own meth ret) : va_Nw (Jvm.Cond.methodLinkNest "RingKeepers" (111 : Nat) ({ cls := "RingKeepers$Tape", name := "hasRoom", desc := "()Z" } : Jvm.MethodName) "RingKeepers") s := xnw hT C 661 (by decide +kernel) rfl
theorem nw_481 (hT : xOK E) (C : mx_C E p m c cc nL s args own meth ret) : va_Nw (Jvm.Cond.methodLinkNest "RingKeepers" (115 : Nat) ({ cls := "RingKeepers$Tape", name := "add", desc := "(I)V" } : Jvm.MethodName) "RingKeepers") s := xnw hT C 665 (by decide +kernel) rfl
theorem nw_489 (hT : xOK E) (C : mx_C E p m c cc nL s args own meth ret) : va_Nw (Jvm.Cond.methodLinkNest "RingKeepers" (123 : Nat) ({ cls := "RingKeepers$Tape", name := "cut", desc := "(I)Z" } : Jvm.MethodName) "RingKeepers") s := xnw hT C 673 (by decide +kernel) rfl
theorem nw_497 (hT : xOK E) (C : mx_C E p m c cc nL s args own meth ret) : va_Nw (Jvm.Cond.methodLinkNest "RingKeepers" (127 : Nat) ({ cls := "RingKeepers$Reader", name := "open", desc := "(I)V" } : Jvm.MethodName) "RingKeepers") s := xnw hT C 681 (by decide +kernel) rfl
theorem nw_505 (hT : xOK E) (C : mx_C E p m c cc nL s args own meth ret) : va_Nw (Jvm.Cond.methodLinkNest "RingKeepers$Reader" (64 : Nat) ({ cls := "RingKeepers$Tape", name := "at", desc := "(I)I" } : Jvm.MethodName) "RingKeepers") s := xnw hT C 689 (by decide +kernel) rfl
theorem nw_523 (hT : xOK E) (C : mx_C E p m c cc nL s args own meth ret) : va_Nw (Jvm.Cond.methodLinkNest "RingKeepers$Reader" (81 : Nat) ({ cls := "RingKeepers$Word", name := "coded", desc := "(J)LRingKeepers$Word;" } : Jvm.MethodName) "RingKeepers") s := xnw hT C 707 (by decide +kernel) rfl
theorem nw_529 (hT : xOK E) (C : mx_C E p m c cc nL s args own meth ret) : va_Nw (Jvm.Cond.methodLinkNest "RingKeepers" (130 : Nat) ({ cls := "RingKeepers$Island", name := "readFrom", desc := "(LRingKeepers$Reader;)Z" } : Jvm.MethodName) "RingKeepers") s := xnw hT C 713 (by decide +kernel) rfl
theorem nw_537 (hT : xOK E) (C : mx_C E p m c cc nL s args own meth ret) : va_Nw (Jvm.Cond.methodLinkNest "RingKeepers$Island" (80 : Nat) ({ cls := "RingKeepers$Reader", name := "isAt", desc := "(I)Z" } : Jvm.MethodName) "RingKeepers") s := xnw hT C 721 (by decide +kernel) rfl
theorem nw_547 (hT : xOK E) (C : mx_C E p m c cc nL s args own meth ret) : va_Nw (Jvm.Cond.methodLinkNest "RingKeepers$Island" (100 : Nat) ({ cls := "RingKeepers$Reader", name := "key", desc := "()LRingKeepers$Word;" } : Jvm.MethodName) "RingKeepers") s := xnw hT C 731 (by decide +kernel) rfl
theorem nw_561 (hT : xOK E) (C : mx_C E p m c cc nL s args own meth ret) : va_Nw (Jvm.Cond.methodLinkNest "RingKeepers$Island" (92 : Nat) ({ cls := "RingKeepers$Reader", name := "fail", desc := "(I)Z" } : Jvm.MethodName) "RingKeepers") s := xnw hT C 745 (by decide +kernel) rfl
theorem nw_565 (hT : xOK E) (C : mx_C E p m c cc nL s args own meth ret) : va_Nw (Jvm.Cond.methodLinkNest "RingKeepers$Island" (125 : Nat) ({ cls := "RingKeepers$Reader", name := "advance", desc := "()V" } : Jvm.MethodName) "RingKeepers") s := xnw hT C 749 (by decide +kernel) rfl
theorem nw_569 (hT : xOK E) (C : mx_C E p m c cc nL s args own meth ret) : va_Nw (Jvm.Cond.methodLinkNest "RingKeepers$Island" (128 : Nat) ({ cls := "RingKeepers$Reader", name := "name", desc := "()J" } : Jvm.MethodName) "RingKeepers") s := xnw hT C 753 (by decide +kernel) rfl
theorem nw_585 (hT : xOK E) (C : mx_C E p m c cc nL s args own meth ret) : va_Nw (Jvm.Cond.methodLinkNest "RingKeepers$Island" (135 : Nat) ({ cls := "RingKeepers$Reader", name := "takeNumber", desc := "(II)Z" } : Jvm.MethodName) "RingKeepers") s := xnw hT C 769 (by decide +kernel) rfl
theorem nw_595 (hT : xOK E) (C : mx_C E p m c cc nL s args own meth ret) : va_Nw (Jvm.Cond.methodLinkNest "RingKeepers$Island" (146 : Nat) ({ cls := "RingKeepers$Reader", name := "takeNamed", desc := "(I)Z" } : Jvm.MethodName) "RingKeepers") s := xnw hT C 779 (by decide +kernel) rfl
theorem nw_614 (hT : xOK E) (C : mx_C E p m c cc nL s args own meth ret) : va_Nw (Jvm.Cond.methodLinkNest "RingKeepers$Island" (88 : Nat) ({ cls := "RingKeepers$Reader", name := "takeSign", desc := "(C)Z" } : Jvm.MethodName) "RingKeepers") s := xnw hT C 798 (by decide +kernel) rfl
theorem nw_622 (hT : xOK E) (C : mx_C E p m c cc nL s args own meth ret) : va_Nw (Jvm.Cond.methodLinkNest "RingKeepers" (134 : Nat) ({ cls := "RingKeepers$Tape", name := "clear", desc := "()V" } : Jvm.MethodName) "RingKeepers") s := xnw hT C 806 (by decide +kernel) rfl
theorem nw_626 (hT : xOK E) (C : mx_C E p m c cc nL s args own meth ret) : va_Nw (Jvm.Cond.methodLinkNest "RingKeepers" (144 : Nat) ({ cls := "RingKeepers$Island", name := "copyFrom", desc := "(LRingKeepers$Island;)V" } : Jvm.MethodName) "RingKeepers") s := xnw hT C 810 (by decide +kernel) rfl
theorem nw_633 (hT : xOK E) (C : mx_C E p m c cc nL s args own meth ret) : va_Nw (Jvm.Cond.methodLinkNest "RingKeepers" (147 : Nat) ({ cls := "RingKeepers$State", name := "begin", desc := "()V" } : Jvm.MethodName) "RingKeepers") s := xnw hT C 817 (by decide +kernel) rfl
theorem nw_641 (hT : xOK E) (C : mx_C E p m c cc nL s args own meth ret) : va_Nw (Jvm.Cond.methodLinkNest "RingKeepers" (150 : Nat) ({ cls := "RingKeepers$Sentence", name := "clear", desc := "()V" } : Jvm.MethodName) "RingKeepers") s := xnw hT C 825 (by decide +kernel) rfl
theorem nw_645 (hT : xOK E) (C : mx_C E p m c cc nL s args own meth ret) : va_Nw (Jvm.Cond.methodLinkNest "RingKeepers" (151 : Nat) ({ cls := "RingKeepers$Past", name := "clear", desc := "()V" } : Jvm.MethodName) "RingKeepers") s := xnw hT C 829 (by decide +kernel) rfl
theorem nw_657 (hT : xOK E) (C : mx_C E p m c cc nL s args own meth ret) : va_Nw (Jvm.Cond.methodLinkNest "RingKeepers" (183 : Nat) ({ cls := "RingKeepers$Island", name := "isRing", desc := "(I)Z" } : Jvm.MethodName) "RingKeepers") s := xnw hT C 841 (by decide +kernel) rfl
theorem nw_661 (hT : xOK E) (C : mx_C E p m c cc nL s args own meth ret) : va_Nw (Jvm.Cond.methodLinkNest "RingKeepers" (154 : Nat) ({ cls := "RingKeepers$Island", name := "isPerson", desc := "(I)Z" } : Jvm.MethodName) "RingKeepers") s := xnw hT C 845 (by decide +kernel) rfl
theorem nw_665 (hT : xOK E) (C : mx_C E p m c cc nL s args own meth ret) : va_Nw (Jvm.Cond.methodLinkNest "RingKeepers" (210 : Nat) ({ cls := "RingKeepers$Island", name := "feel", desc := "(II)I" } : Jvm.MethodName) "RingKeepers") s := xnw hT C 849 (by decide +kernel) rfl
theorem nw_673 (hT : xOK E) (C : mx_C E p m c cc nL s args own meth ret) : va_Nw (Jvm.Cond.methodLinkNest "RingKeepers" (217 : Nat) ({ cls := "RingKeepers$State", name := "ringsThatAre", desc := "(I)I" } : Jvm.MethodName) "RingKeepers") s := xnw hT C 857 (by decide +kernel) rfl
theorem nw_681 (hT : xOK E) (C : mx_C E p m c cc nL s args own meth ret) : va_Nw (Jvm.Cond.methodLinkNest "RingKeepers" (220 : Nat) ({ cls := "RingKeepers$State", name := "ringsThatWere", desc := "(I)I" } : Jvm.MethodName) "RingKeepers") s := xnw hT C 865 (by decide +kernel) rfl
theorem nw_692 (hT : xOK E) (C : mx_C E p m c cc nL s args own meth ret) : va_Nw (Jvm.Cond.methodLinkNest "RingKeepers" (233 : Nat) ({ cls := "RingKeepers$State", name := "copyFrom", desc := "(LRingKeepers$State;)V" } : Jvm.MethodName) "RingKeepers") s := xnw hT C 876 (by decide +kernel) rfl
theorem nw_697 (hT : xOK E) (C : mx_C E p m c cc nL s args own meth ret) : va_Nw (Jvm.Cond.methodLinkNest "RingKeepers" (236 : Nat) ({ cls := "RingKeepers$State", name := "walkTo", desc := "(III)I" } : Jvm.MethodName) "RingKeepers") s := xnw hT C 881 (by decide +kernel) rfl
theorem nw_712 (hT : xOK E) (C : mx_C E p m c cc nL s args own meth ret) : va_Nw (Jvm.Cond.methodLinkNest "RingKeepers" (342 : Nat) ({ cls := "RingKeepers$Past", name := "push", desc := "(LRingKeepers$State;)V" } : Jvm.MethodName) "RingKeepers") s := xnw hT C 896 (by decide +kernel) rfl
theorem nw_720 (hT : xOK E) (C : mx_C E p m c cc nL s args own meth ret) : va_Nw (Jvm.Cond.methodLinkNest "RingKeepers$Past" (25 : Nat) ({ cls := "RingKeepers$State", name := "copyFrom", desc := "(LRingKeepers$State;)V" } : Jvm.MethodName) "RingKeepers") s := xnw hT C 904 (by decide +kernel) rfl
theorem nw_725 (hT : xOK E) (C : mx_C E p m c cc nL s args own meth ret) : va_Nw (Jvm.Cond.methodLinkNest "RingKeepers" (243 : Nat) ({ cls := "RingKeepers$State", name := "passOn", desc := "(III)I" } : Jvm.MethodName) "RingKeepers") s := xnw hT C 909 (by decide +kernel) rfl
theorem nw_737 (hT : xOK E) (C : mx_C E p m c cc nL s args own meth ret) : va_Nw (Jvm.Cond.methodLinkNest "RingKeepers$State" (90 : Nat) ({ cls := "RingKeepers$Island", name := "isPerson", desc := "(I)Z" } : Jvm.MethodName) "RingKeepers") s := xnw hT C 921 (by decide +kernel) rfl
theorem nw_742 (hT : xOK E) (C : mx_C E p m c cc nL s args own meth ret) : va_Nw (Jvm.Cond.methodLinkNest "RingKeepers" (246 : Nat) ({ cls := "RingKeepers$State", name := "putOn", desc := "(II)I" } : Jvm.MethodName) "RingKeepers") s := xnw hT C 926 (by decide +kernel) rfl
theorem nw_750 (hT : xOK E) (C : mx_C E p m c cc nL s args own meth ret) : va_Nw (Jvm.Cond.methodLinkNest "RingKeepers$State" (116 : Nat) ({ cls := "RingKeepers$Island", name := "feel", desc := "(II)I" } : Jvm.MethodName) "RingKeepers") s := xnw hT C 934 (by decide +kernel) rfl
theorem nw_755 (hT : xOK E) (C : mx_C E p m c cc nL s args own meth ret) : va_Nw (Jvm.Cond.methodLinkNest "RingKeepers" (249 : Nat) ({ cls := "RingKeepers$State", name := "takeOff", desc := "(I)I" } : Jvm.MethodName) "RingKeepers") s := xnw hT C 939 (by decide +kernel) rfl
theorem nw_763 (hT : xOK E) (C : mx_C E p m c cc nL s args own meth ret) : va_Nw (Jvm.Cond.methodLinkNest "RingKeepers" (252 : Nat) ({ cls := "RingKeepers$State", name := "pickUp", desc := "(II)I" } : Jvm.MethodName) "RingKeepers") s := xnw hT C 947 (by decide +kernel) rfl
theorem nw_771 (hT : xOK E) (C : mx_C E p m c cc nL s args own meth ret) : va_Nw (Jvm.Cond.methodLinkNest "RingKeepers" (255 : Nat) ({ cls := "RingKeepers$State", name := "passDays", desc := "(I)I" } : Jvm.MethodName) "RingKeepers") s := xnw hT C 955 (by decide +kernel) rfl
theorem nw_805 (hT : xOK E) (C : mx_C E p m c cc nL s args own meth ret) : va_Nw (Jvm.Cond.methodLinkNest "RingKeepers" (263 : Nat) ({ cls := "RingKeepers$Past", name := "takeBack", desc := "(LRingKeepers$State;)V" } : Jvm.MethodName) "RingKeepers") s := xnw hT C 989 (by decide +kernel) rfl
theorem nw_813 (hT : xOK E) (C : mx_C E p m c cc nL s args own meth ret) : va_Nw (Jvm.Cond.methodLinkNest "RingKeepers" (266 : Nat) ({ cls := "RingKeepers$State", name := "daysTillMet", desc := "(I)I" } : Jvm.MethodName) "RingKeepers") s := xnw hT C 997 (by decide +kernel) rfl
theorem nw_833 (hT : xOK E) (C : mx_C E p m c cc nL s args own meth ret) : va_Nw (Jvm.Cond.methodLinkNest "RingKeepers" (272 : Nat) ({ cls := "RingKeepers$Plans", name := "planTour", desc := "(LRingKeepers$State;I)I" } : Jvm.MethodName) "RingKeepers") s := xnw hT C 1017 (by decide +kernel) rfl
theorem nw_840 (hT : xOK E) (C : mx_C E p m c cc nL s args own meth ret) : va_Nw (Jvm.Cond.methodLinkNest "RingKeepers$Plans" (57 : Nat) ({ cls := "RingKeepers$State", name := "isKeptBy", desc := "(II)Z" } : Jvm.MethodName) "RingKeepers") s := xnw hT C 1024 (by decide +kernel) rfl
theorem nw_850 (hT : xOK E) (C : mx_C E p m c cc nL s args own meth ret) : va_Nw (Jvm.Cond.methodLinkNest "RingKeepers$Plans" (75 : Nat) ({ cls := "RingKeepers$State", name := "farBetween", desc := "(II)I" } : Jvm.MethodName) "RingKeepers") s := xnw hT C 1034 (by decide +kernel) rfl
theorem nw_873 (hT : xOK E) (C : mx_C E p m c cc nL s args own meth ret) : va_Nw (Jvm.Cond.methodLinkNest "RingKeepers" (282 : Nat) ({ cls := "RingKeepers$Plans", name := "planKeepers", desc := "(LRingKeepers$State;)I" } : Jvm.MethodName) "RingKeepers") s := xnw hT C 1057 (by decide +kernel) rfl
theorem nw_905 (hT : xOK E) (C : mx_C E p m c cc nL s args own meth ret) : va_Nw (Jvm.Cond.methodLinkNest "RingKeepers" (289 : Nat) ({ cls := "RingKeepers$Fitting", name := "readTries", desc := "(LRingKeepers$Island;LRingKeepers$Tape;)I" } : Jvm.MethodName) "RingKeepers") s := xnw hT C 1089 (by decide +kernel) rfl
theorem nw_912 (hT : xOK E) (C : mx_C E p m c cc nL s args own meth ret) : va_Nw (Jvm.Cond.methodLinkNest "RingKeepers$Fitting" (48 : Nat) ({ cls := "RingKeepers$Tape", name := "at", desc := "(I)I" } : Jvm.MethodName) "RingKeepers") s := xnw hT C 1096 (by decide +kernel) rfl
theorem nw_913 (hT : xOK E) (C : mx_C E p m c cc nL s args own meth ret) : va_Nw (Jvm.Cond.methodLinkNest "RingKeepers$Fitting" (51 : Nat) ({ cls := "RingKeepers$Island", name := "isPerson", desc := "(I)Z" } : Jvm.MethodName) "RingKeepers") s := xnw hT C 1097 (by decide +kernel) rfl
theorem nw_917 (hT : xOK E) (C : mx_C E p m c cc nL s args own meth ret) : va_Nw (Jvm.Cond.methodLinkNest "RingKeepers$Fitting" (57 : Nat) ({ cls := "RingKeepers$Island", name := "feel", desc := "(II)I" } : Jvm.MethodName) "RingKeepers") s := xnw hT C 1101 (by decide +kernel) rfl
theorem nw_940 (hT : xOK E) (C : mx_C E p m c cc nL s args own meth ret) : va_Nw (Jvm.Cond.methodLinkNest "RingKeepers" (299 : Nat) ({ cls := "RingKeepers$Fitting", name := "waysToGive", desc := "(LRingKeepers$Island;)I" } : Jvm.MethodName) "RingKeepers") s := xnw hT C 1124 (by decide +kernel) rfl
theorem nw_959 (hT : xOK E) (C : mx_C E p m c cc nL s args own meth ret) : va_Nw (Jvm.Cond.methodLinkNest "RingKeepers" (303 : Nat) ({ cls := "RingKeepers$Fitting", name := "likeliest", desc := "(LRingKeepers$Island;I)I" } : Jvm.MethodName) "RingKeepers") s := xnw hT C 1143 (by decide +kernel) rfl
theorem nw_971 (hT : xOK E) (C : mx_C E p m c cc nL s args own meth ret) : va_Nw (Jvm.Cond.methodLinkNest "RingKeepers" (307 : Nat) ({ cls := "RingKeepers$Plans", name := "chainFrom", desc := "(LRingKeepers$State;I)I" } : Jvm.MethodName) "RingKeepers") s := xnw hT C 1155 (by decide +kernel) rfl
theorem nw_987 (hT : xOK E) (C : mx_C E p m c cc nL s args own meth ret) : va_Nw (Jvm.Cond.methodLinkNest "RingKeepers" (318 : Nat) ({ cls := "RingKeepers$Note", name := "write", desc := "(LRingKeepers$State;I)V" } : Jvm.MethodName) "RingKeepers") s := xnw hT C 1171 (by decide +kernel) rfl
theorem nw_991 (hT : xOK E) (C : mx_C E p m c cc nL s args own meth ret) : va_Nw (Jvm.Cond.methodLinkNest "RingKeepers$Note" (21 : Nat) ({ cls := "RingKeepers$State", name := "keptBy", desc := "(I)I" } : Jvm.MethodName) "RingKeepers") s := xnw hT C 1175 (by decide +kernel) rfl
theorem nw_992 (hT : xOK E) (C : mx_C E p m c cc nL s args own meth ret) : va_Nw (Jvm.Cond.methodLinkNest "RingKeepers$Note" (25 : Nat) ({ cls := "RingKeepers$State", name := "wornBy", desc := "(I)I" } : Jvm.MethodName) "RingKeepers") s := xnw hT C 1176 (by decide +kernel) rfl
theorem nw_1065 (hT : xOK E) (C : mx_C E p m c cc nL s args own meth ret) : va_Nw (Jvm.Cond.methodLinkNest "RingKeepers" (327 : Nat) ({ cls := "RingKeepers$State", name := "drawDays", desc := "(II)I" } : Jvm.MethodName) "RingKeepers") s := xnw hT C 1249 (by decide +kernel) rfl
theorem nw_1086 (hT : xOK E) (C : mx_C E p m c cc nL s args own meth ret) : va_Nw (Jvm.Cond.methodLinkNest "RingKeepers" (330 : Nat) ({ cls := "RingKeepers$State", name := "isWithOwner", desc := "(I)Z" } : Jvm.MethodName) "RingKeepers") s := xnw hT C 1270 (by decide +kernel) rfl
theorem nw_1091 (hT : xOK E) (C : mx_C E p m c cc nL s args own meth ret) : va_Nw (Jvm.Cond.methodLinkNest "RingKeepers" (333 : Nat) ({ cls := "RingKeepers$Book", name := "readFrom", desc := "(LRingKeepers$Reader;LRingKeepers$Island;)Z" } : Jvm.MethodName) "RingKeepers") s := xnw hT C 1275 (by decide +kernel) rfl
theorem nw_1095 (hT : xOK E) (C : mx_C E p m c cc nL s args own meth ret) : va_Nw (Jvm.Cond.methodLinkNest "RingKeepers$Book" (30 : Nat) ({ cls := "RingKeepers$Reader", name := "isAt", desc := "(I)Z" } : Jvm.MethodName) "RingKeepers") s := xnw hT C 1279 (by decide +kernel) rfl
theorem nw_1100 (hT : xOK E) (C : mx_C E p m c cc nL s args own meth ret) : va_Nw (Jvm.Cond.methodLinkNest "RingKeepers$Book" (58 : Nat) ({ cls := "RingKeepers$Reader", name := "key", desc := "()LRingKeepers$Word;" } : Jvm.MethodName) "RingKeepers") s := xnw hT C 1284 (by decide +kernel) rfl
theorem nw_1103 (hT : xOK E) (C : mx_C E p m c cc nL s args own meth ret) : va_Nw (Jvm.Cond.methodLinkNest "RingKeepers$Book" (48 : Nat) ({ cls := "RingKeepers$Reader", name := "name", desc := "()J" } : Jvm.MethodName) "RingKeepers") s := xnw hT C 1287 (by decide +kernel) rfl
theorem nw_1104 (hT : xOK E) (C : mx_C E p m c cc nL s args own meth ret) : va_Nw (Jvm.Cond.methodLinkNest "RingKeepers$Book" (52 : Nat) ({ cls := "RingKeepers$Island", name := "personNamed", desc := "(J)I" } : Jvm.MethodName) "RingKeepers") s := xnw hT C 1288 (by decide +kernel) rfl
theorem nw_1105 (hT : xOK E) (C : mx_C E p m c cc nL s args own meth ret) : va_Nw (Jvm.Cond.methodLinkNest "RingKeepers$Book" (71 : Nat) ({ cls := "RingKeepers$Reader", name := "takeNamed", desc := "(I)Z" } : Jvm.MethodName) "RingKeepers") s := xnw hT C 1289 (by decide +kernel) rfl
theorem nw_1118 (hT : xOK E) (C : mx_C E p m c cc nL s args own meth ret) : va_Nw (Jvm.Cond.methodLinkNest "RingKeepers$Book" (98 : Nat) ({ cls := "RingKeepers$Reader", name := "advance", desc := "()V" } : Jvm.MethodName) "RingKeepers") s := xnw hT C 1302 (by decide +kernel) rfl
theorem nw_1119 (hT : xOK E) (C : mx_C E p m c cc nL s args own meth ret) : va_Nw (Jvm.Cond.methodLinkNest "RingKeepers$Book" (101 : Nat) ({ cls := "RingKeepers$Reader", name := "takeNumber", desc := "(II)Z" } : Jvm.MethodName) "RingKeepers") s := xnw hT C 1303 (by decide +kernel) rfl
theorem nw_1126 (hT : xOK E) (C : mx_C E p m c cc nL s args own meth ret) : va_Nw (Jvm.Cond.methodLinkNest "RingKeepers$Book" (105 : Nat) ({ cls := "RingKeepers$Island", name := "ringNamed", desc := "(J)I" } : Jvm.MethodName) "RingKeepers") s := xnw hT C 1310 (by decide +kernel) rfl
theorem nw_1127 (hT : xOK E) (C : mx_C E p m c cc nL s args own meth ret) : va_Nw (Jvm.Cond.methodLinkNest "RingKeepers$Book" (68 : Nat) ({ cls := "RingKeepers$Reader", name := "fail", desc := "(I)Z" } : Jvm.MethodName) "RingKeepers") s := xnw hT C 1311 (by decide +kernel) rfl
theorem nw_1128 (hT : xOK E) (C : mx_C E p m c cc nL s args own meth ret) : va_Nw (Jvm.Cond.methodLinkNest "RingKeepers$Book" (41 : Nat) ({ cls := "RingKeepers$Reader", name := "takeSign", desc := "(C)Z" } : Jvm.MethodName) "RingKeepers") s := xnw hT C 1312 (by decide +kernel) rfl
theorem nw_1133 (hT : xOK E) (C : mx_C E p m c cc nL s args own meth ret) : va_Nw (Jvm.Cond.methodLinkNest "RingKeepers" (336 : Nat) ({ cls := "RingKeepers$Book", name := "judge", desc := "(LRingKeepers$State;)I" } : Jvm.MethodName) "RingKeepers") s := xnw hT C 1317 (by decide +kernel) rfl
theorem nw_1141 (hT : xOK E) (C : mx_C E p m c cc nL s args own meth ret) : va_Nw (Jvm.Cond.methodLinkNest "RingKeepers$Book" (137 : Nat) ({ cls := "RingKeepers$State", name := "walkTo", desc := "(III)I" } : Jvm.MethodName) "RingKeepers") s := xnw hT C 1325 (by decide +kernel) rfl
theorem nw_1142 (hT : xOK E) (C : mx_C E p m c cc nL s args own meth ret) : va_Nw (Jvm.Cond.methodLinkNest "RingKeepers$Book" (141 : Nat) ({ cls := "RingKeepers$State", name := "passOn", desc := "(III)I" } : Jvm.MethodName) "RingKeepers") s := xnw hT C 1326 (by decide +kernel) rfl
theorem nw_1143 (hT : xOK E) (C : mx_C E p m c cc nL s args own meth ret) : va_Nw (Jvm.Cond.methodLinkNest "RingKeepers$Book" (144 : Nat) ({ cls := "RingKeepers$State", name := "putOn", desc := "(II)I" } : Jvm.MethodName) "RingKeepers") s := xnw hT C 1327 (by decide +kernel) rfl
theorem nw_1144 (hT : xOK E) (C : mx_C E p m c cc nL s args own meth ret) : va_Nw (Jvm.Cond.methodLinkNest "RingKeepers$Book" (148 : Nat) ({ cls := "RingKeepers$State", name := "takeOff", desc := "(I)I" } : Jvm.MethodName) "RingKeepers") s := xnw hT C 1328 (by decide +kernel) rfl
theorem nw_1145 (hT : xOK E) (C : mx_C E p m c cc nL s args own meth ret) : va_Nw (Jvm.Cond.methodLinkNest "RingKeepers$Book" (151 : Nat) ({ cls := "RingKeepers$State", name := "pickUp", desc := "(II)I" } : Jvm.MethodName) "RingKeepers") s := xnw hT C 1329 (by decide +kernel) rfl
theorem nw_1149 (hT : xOK E) (C : mx_C E p m c cc nL s args own meth ret) : va_Nw (Jvm.Cond.methodLinkNest "RingKeepers$Book" (157 : Nat) ({ cls := "RingKeepers$State", name := "passDays", desc := "(I)I" } : Jvm.MethodName) "RingKeepers") s := xnw hT C 1333 (by decide +kernel) rfl
theorem nw_1150 (hT : xOK E) (C : mx_C E p m c cc nL s args own meth ret) : va_Nw (Jvm.Cond.methodLinkNest "RingKeepers$Book" (126 : Nat) ({ cls := "RingKeepers$State", name := "ringsThatAre", desc := "(I)I" } : Jvm.MethodName) "RingKeepers") s := xnw hT C 1334 (by decide +kernel) rfl
theorem nw_1159 (hT : xOK E) (C : mx_C E p m c cc nL s args own meth ret) : va_Nw (Jvm.Cond.methodLinkNest "RingKeepers" (358 : Nat) ({ cls := "RingKeepers$Sentence", name := "readFrom", desc := "(LRingKeepers$Reader;LRingKeepers$Island;)Z" } : Jvm.MethodName) "RingKeepers") s := xnw hT C 1343 (by decide +kernel) rfl
theorem nw_1176 (hT : xOK E) (C : mx_C E p m c cc nL s args own meth ret) : va_Nw (Jvm.Cond.methodLinkNest "RingKeepers$Sentence" (80 : Nat) ({ cls := "RingKeepers$Reader", name := "isAtSign", desc := "(C)Z" } : Jvm.MethodName) "RingKeepers") s := xnw hT C 1360 (by decide +kernel) rfl
theorem nw_1177 (hT : xOK E) (C : mx_C E p m c cc nL s args own meth ret) : va_Nw (Jvm.Cond.methodLinkNest "RingKeepers$Sentence" (60 : Nat) ({ cls := "RingKeepers$Reader", name := "key", desc := "()LRingKeepers$Word;" } : Jvm.MethodName) "RingKeepers") s := xnw hT C 1361 (by decide +kernel) rfl
theorem nw_1183 (hT : xOK E) (C : mx_C E p m c cc nL s args own meth ret) : va_Nw (Jvm.Cond.methodLinkNest "RingKeepers$Sentence" (54 : Nat) ({ cls := "RingKeepers$Reader", name := "fail", desc := "(I)Z" } : Jvm.MethodName) "RingKeepers") s := xnw hT C 1367 (by decide +kernel) rfl
theorem nw_1184 (hT : xOK E) (C : mx_C E p m c cc nL s args own meth ret) : va_Nw (Jvm.Cond.methodLinkNest "RingKeepers$Sentence" (67 : Nat) ({ cls := "RingKeepers$Reader", name := "advance", desc := "()V" } : Jvm.MethodName) "RingKeepers") s := xnw hT C 1368 (by decide +kernel) rfl
theorem nw_1185 (hT : xOK E) (C : mx_C E p m c cc nL s args own meth ret) : va_Nw (Jvm.Cond.methodLinkNest "RingKeepers$Sentence" (88 : Nat) ({ cls := "RingKeepers$Reader", name := "takeSign", desc := "(C)Z" } : Jvm.MethodName) "RingKeepers") s := xnw hT C 1369 (by decide +kernel) rfl
theorem nw_1196 (hT : xOK E) (C : mx_C E p m c cc nL s args own meth ret) : va_Nw (Jvm.Cond.methodLinkNest "RingKeepers$Sentence" (107 : Nat) ({ cls := "RingKeepers$Reader", name := "name", desc := "()J" } : Jvm.MethodName) "RingKeepers") s := xnw hT C 1380 (by decide +kernel) rfl
theorem nw_1197 (hT : xOK E) (C : mx_C E p m c cc nL s args own meth ret) : va_Nw (Jvm.Cond.methodLinkNest "RingKeepers$Sentence" (111 : Nat) ({ cls := "RingKeepers$Island", name := "ringNamed", desc := "(J)I" } : Jvm.MethodName) "RingKeepers") s := xnw hT C 1381 (by decide +kernel) rfl
theorem nw_1198 (hT : xOK E) (C : mx_C E p m c cc nL s args own meth ret) : va_Nw (Jvm.Cond.methodLinkNest "RingKeepers$Sentence" (117 : Nat) ({ cls := "RingKeepers$Reader", name := "takeNamed", desc := "(I)Z" } : Jvm.MethodName) "RingKeepers") s := xnw hT C 1382 (by decide +kernel) rfl
theorem nw_1203 (hT : xOK E) (C : mx_C E p m c cc nL s args own meth ret) : va_Nw (Jvm.Cond.methodLinkNest "RingKeepers$Sentence" (124 : Nat) ({ cls := "RingKeepers$Island", name := "personNamed", desc := "(J)I" } : Jvm.MethodName) "RingKeepers") s := xnw hT C 1387 (by decide +kernel) rfl
theorem nw_1207 (hT : xOK E) (C : mx_C E p m c cc nL s args own meth ret) : va_Nw (Jvm.Cond.methodLinkNest "RingKeepers$Sentence" (131 : Nat) ({ cls := "RingKeepers$Reader", name := "takeNumber", desc := "(II)Z" } : Jvm.MethodName) "RingKeepers") s := xnw hT C 1391 (by decide +kernel) rfl
theorem nw_1212 (hT : xOK E) (C : mx_C E p m c cc nL s args own meth ret) : va_Nw (Jvm.Cond.methodLinkNest "RingKeepers$Sentence" (50 : Nat) ({ cls := "RingKeepers$Reader", name := "isAt", desc := "(I)Z" } : Jvm.MethodName) "RingKeepers") s := xnw hT C 1396 (by decide +kernel) rfl
theorem nw_1213 (hT : xOK E) (C : mx_C E p m c cc nL s args own meth ret) : va_Nw (Jvm.Cond.methodLinkNest "RingKeepers" (359 : Nat) ({ cls := "RingKeepers$Sentence", name := "copyFrom", desc := "(LRingKeepers$Sentence;)V" } : Jvm.MethodName) "RingKeepers") s := xnw hT C 1397 (by decide +kernel) rfl
theorem nw_1222 (hT : xOK E) (C : mx_C E p m c cc nL s args own meth ret) : va_Nw (Jvm.Cond.methodLinkNest "RingKeepers" (368 : Nat) ({ cls := "RingKeepers$Sentence", name := "holdsOf", desc := "(LRingKeepers$State;I)Z" } : Jvm.MethodName) "RingKeepers") s := xnw hT C 1406 (by decide +kernel) rfl
theorem nw_1230 (hT : xOK E) (C : mx_C E p m c cc nL s args own meth ret) : va_Nw (Jvm.Cond.methodLinkNest "RingKeepers$Sentence" (142 : Nat) ({ cls := "RingKeepers$State", name := "wornBy", desc := "(I)I" } : Jvm.MethodName) "RingKeepers") s := xnw hT C 1414 (by decide +kernel) rfl
theorem nw_1234 (hT : xOK E) (C : mx_C E p m c cc nL s args own meth ret) : va_Nw (Jvm.Cond.methodLinkNest "RingKeepers$Sentence" (156 : Nat) ({ cls := "RingKeepers$Island", name := "ownedBy", desc := "(I)I" } : Jvm.MethodName) "RingKeepers") s := xnw hT C 1418 (by decide +kernel) rfl
theorem nw_1238 (hT : xOK E) (C : mx_C E p m c cc nL s args own meth ret) : va_Nw (Jvm.Cond.methodLinkNest "RingKeepers$Sentence" (182 : Nat) ({ cls := "RingKeepers$State", name := "ringsThatWere", desc := "(I)I" } : Jvm.MethodName) "RingKeepers") s := xnw hT C 1422 (by decide +kernel) rfl
theorem nw_1239 (hT : xOK E) (C : mx_C E p m c cc nL s args own meth ret) : va_Nw (Jvm.Cond.methodLinkNest "RingKeepers$Sentence" (159 : Nat) ({ cls := "RingKeepers$State", name := "hasRing", desc := "(II)Z" } : Jvm.MethodName) "RingKeepers") s := xnw hT C 1423 (by decide +kernel) rfl
theorem nw_1243 (hT : xOK E) (C : mx_C E p m c cc nL s args own meth ret) : va_Nw (Jvm.Cond.methodLinkNest "RingKeepers$State" (83 : Nat) ({ cls := "RingKeepers$Island", name := "isRing", desc := "(I)Z" } : Jvm.MethodName) "RingKeepers") s := xnw hT C 1427 (by decide +kernel) rfl
theorem nw_1244 (hT : xOK E) (C : mx_C E p m c cc nL s args own meth ret) : va_Nw (Jvm.Cond.methodLinkNest "RingKeepers$Sentence" (162 : Nat) ({ cls := "RingKeepers$State", name := "isBy", desc := "(II)Z" } : Jvm.MethodName) "RingKeepers") s := xnw hT C 1428 (by decide +kernel) rfl
theorem nw_1245 (hT : xOK E) (C : mx_C E p m c cc nL s args own meth ret) : va_Nw (Jvm.Cond.methodLinkNest "RingKeepers$Sentence" (165 : Nat) ({ cls := "RingKeepers$State", name := "keptBy", desc := "(I)I" } : Jvm.MethodName) "RingKeepers") s := xnw hT C 1429 (by decide +kernel) rfl
theorem gX1_11 {k : Nat} {fs : List (Nat × Nat)} {f : Nat × Nat} {v : Value} (C : mx_C E p m c cc nL s args RX1 meth ret) (hM : mx_H E s M H locs) (hk : E.1[k]? = some (.inl (1, fs))) (hf : fs[0]? = some f) (hv : mx_fv E.2.1 M k 0 f = v) (hdg : decode cc pc = .ok (.getfield 11, 3)) (kk : W p l e R s m args below meth c H locs cells slots Q (F0 m (pc + 3) ls (v :: rest))) : W p l e R s m args below meth c H locs cells slots Q (F0 m pc ls (.ref (E.2.1.2.1 k) :: rest)) := by
  subst hv
  exact mx_get C hM cl_1 hk hf (by decide) qw_308 hdg kk
theorem gX1_15 {k : Nat} {fs : List (Nat × Nat)} {f : Nat × Nat} {v : Value} (C : mx_C E p m c cc nL s args RX1 meth ret) (hM : mx_H E s M H locs) (hk : E.1[k]? = some (.inl (1, fs))) (hf : fs[1]? = some f) (hv : mx_fv E.2.1 M k 1 f = v) (hdg : decode cc pc = .ok (.getfield 15, 3)) (kk : W p l e R s m args below meth c H locs cells slots Q (F0 m (pc + 3) ls (v :: rest))) : W p l e R s m args below meth c H locs cells slots Q (F0 m pc ls (.ref (E.2.1.2.1 k) :: rest)) := by
  subst hv
  exact mx_get C hM cl_1 hk hf (by decide) qw_309 hdg kk
theorem gX1_18 {k : Nat} {fs : List (Nat × Nat)} {f : Nat × Nat} {v : Value} (C : mx_C E p m c cc nL s args RX1 meth ret) (hM : mx_H E s M H locs) (hk : E.1[k]? = some (.inl (1, fs))) (hf : fs[2]? = some f) (hv : mx_fv E.2.1 M k 2 f = v) (hdg : decode cc pc = .ok (.getfield 18, 3)) (kk : W p l e R s m args below meth c H locs cells slots Q (F0 m (pc + 3) ls (v :: rest))) : W p l e R s m args below meth c H locs cells slots Q (F0 m pc ls (.ref (E.2.1.2.1 k) :: rest)) := by
  subst hv
  exact mx_get C hM cl_1 hk hf (by decide) qw_310 hdg kk
theorem gX1_21 {k : Nat} {fs : List (Nat × Nat)} {f : Nat × Nat} {v : Value} (C : mx_C E p m c cc nL s args RX1 meth ret) (hM : mx_H E s M H locs) (hk : E.1[k]? = some (.inl (1, fs))) (hf : fs[3]? = some f) (hv : mx_fv E.2.1 M k 3 f = v) (hdg : decode cc pc = .ok (.getfield 21, 3)) (kk : W p l e R s m args below meth c H locs cells slots Q (F0 m (pc + 3) ls (v :: rest))) : W p l e R s m args below meth c H locs cells slots Q (F0 m pc ls (.ref (E.2.1.2.1 k) :: rest)) := by
  subst hv
  exact mx_get C hM cl_1 hk hf (by decide) qw_311 hdg kk
theorem gX1_24 {k : Nat} {fs : List (Nat × Nat)} {f : Nat × Nat} {v : Value} (C : mx_C E p m c cc nL s args RX1 meth ret) (hM : mx_H E s M H locs) (hk : E.1[k]? = some (.inl (1, fs))) (hf : fs[4]? = some f) (hv : mx_fv E.2.1 M k 4 f = v) (hdg : decode cc pc = .ok (.getfield 24, 3)) (kk : W p l e R s m args below meth c H locs cells slots Q (F0 m (pc + 3) ls (v :: rest))) : W p l e R s m args below meth c H locs cells slots Q (F0 m pc ls (.ref (E.2.1.2.1 k) :: rest)) := by
  subst hv
  exact mx_get C hM cl_1 hk hf (by decide) qw_312 hdg kk
theorem gX1_74 {k : Nat} {fs : List (Nat × Nat)} {f : Nat × Nat} {v : Value} (C : mx_C E p m c cc nL s args RX1 meth ret) (hT : xOK E) (hM : mx_H E s M H locs) (hk : E.1[k]? = some (.inl (7, fs))) (hf : fs[9]? = some f) (hv : mx_fv E.2.1 M k 9 f = v) (hdg : decode cc pc = .ok (.getfield 74, 3)) (kk : W p l e R s m args below meth c H locs cells slots Q (F0 m (pc + 3) ls (v :: rest))) : W p l e R s m args below meth c H locs cells slots Q (F0 m pc ls (.ref (E.2.1.2.1 k) :: rest)) := by
  subst hv
  exact mx_getN C hM cl_7 hk hf (by decide) (nw_71 hT C) hdg kk
theorem gX1_108 {k : Nat} {fs : List (Nat × Nat)} {f : Nat × Nat} {v : Value} (C : mx_C E p m c cc nL s args RX1 meth ret) (hM : mx_H E s M H locs) (hk : E.1[k]? = some (.inl (1, fs))) (hf : fs[6]? = some f) (hv : mx_fv E.2.1 M k 6 f = v) (hdg : decode cc pc = .ok (.getfield 108, 3)) (kk : W p l e R s m args below meth c H locs cells slots Q (F0 m (pc + 3) ls (v :: rest))) : W p l e R s m args below meth c H locs cells slots Q (F0 m pc ls (.ref (E.2.1.2.1 k) :: rest)) := by
  subst hv
  exact mx_get C hM cl_1 hk hf (by decide) qw_315 hdg kk
theorem gX1_111 {k : Nat} {fs : List (Nat × Nat)} {f : Nat × Nat} {v : Value} (C : mx_C E p m c cc nL s args RX1 meth ret) (hM : mx_H E s M H locs) (hk : E.1[k]? = some (.inl (1, fs))) (hf : fs[7]? = some f) (hv : mx_fv E.2.1 M k 7 f = v) (hdg : decode cc pc = .ok (.getfield 111, 3)) (kk : W p l e R s m args below meth c H locs cells slots Q (F0 m (pc + 3) ls (v :: rest))) : W p l e R s m args below meth c H locs cells slots Q (F0 m pc ls (.ref (E.2.1.2.1 k) :: rest)) := by
  subst hv
  exact mx_get C hM cl_1 hk hf (by decide) qw_317 hdg kk
theorem gX1_118 {k : Nat} {fs : List (Nat × Nat)} {f : Nat × Nat} {v : Value} (C : mx_C E p m c cc nL s args RX1 meth ret) (hT : xOK E) (hM : mx_H E s M H locs) (hk : E.1[k]? = some (.inl (9, fs))) (hf : fs[9]? = some f) (hv : mx_fv E.2.1 M k 9 f = v) (hdg : decode cc pc = .ok (.getfield 118, 3)) (kk : W p l e R s m args below meth c H locs cells slots Q (F0 m (pc + 3) ls (v :: rest))) : W p l e R s m args below meth c H locs cells slots Q (F0 m pc ls (.ref (E.2.1.2.1 k) :: rest)) := by
  subst hv
  exact mx_getN C hM cl_9 hk hf (by decide) (nw_227 hT C) hdg kk
theorem gX10_11 {k : Nat} {fs : List (Nat × Nat)} {f : Nat × Nat} {v : Value} (C : mx_C E p m c cc nL s args RX10 meth ret) (hM : mx_H E s M H locs) (hk : E.1[k]? = some (.inl (10, fs))) (hf : fs[0]? = some f) (hv : mx_fv E.2.1 M k 0 f = v) (hdg : decode cc pc = .ok (.getfield 11, 3)) (kk : W p l e R s m args below meth c H locs cells slots Q (F0 m (pc + 3) ls (v :: rest))) : W p l e R s m args below meth c H locs cells slots Q (F0 m pc ls (.ref (E.2.1.2.1 k) :: rest)) := by
  subst hv
  exact mx_get C hM cl_10 hk hf (by decide) qw_41 hdg kk
theorem gX10_15 {k : Nat} {fs : List (Nat × Nat)} {f : Nat × Nat} {v : Value} (C : mx_C E p m c cc nL s args RX10 meth ret) (hM : mx_H E s M H locs) (hk : E.1[k]? = some (.inl (10, fs))) (hf : fs[1]? = some f) (hv : mx_fv E.2.1 M k 1 f = v) (hdg : decode cc pc = .ok (.getfield 15, 3)) (kk : W p l e R s m args below meth c H locs cells slots Q (F0 m (pc + 3) ls (v :: rest))) : W p l e R s m args below meth c H locs cells slots Q (F0 m pc ls (.ref (E.2.1.2.1 k) :: rest)) := by
  subst hv
  exact mx_get C hM cl_10 hk hf (by decide) qw_42 hdg kk
theorem gX12_10 {k : Nat} {fs : List (Nat × Nat)} {f : Nat × Nat} {v : Value} (C : mx_C E p m c cc nL s args RX12 meth ret) (hM : mx_H E s M H locs) (hk : E.1[k]? = some (.inl (12, fs))) (hf : fs[0]? = some f) (hv : mx_fv E.2.1 M k 0 f = v) (hdg : decode cc pc = .ok (.getfield 10, 3)) (kk : W p l e R s m args below meth c H locs cells slots Q (F0 m (pc + 3) ls (v :: rest))) : W p l e R s m args below meth c H locs cells slots Q (F0 m pc ls (.ref (E.2.1.2.1 k) :: rest)) := by
  subst hv
  exact mx_get C hM cl_12 hk hf (by decide) qw_414 hdg kk
theorem gX12_21 {k : Nat} {fs : List (Nat × Nat)} {f : Nat × Nat} {v : Value} (C : mx_C E p m c cc nL s args RX12 meth ret) (hM : mx_H E s M H locs) (hk : E.1[k]? = some (.inl (12, fs))) (hf : fs[1]? = some f) (hv : mx_fv E.2.1 M k 1 f = v) (hdg : decode cc pc = .ok (.getfield 21, 3)) (kk : W p l e R s m args below meth c H locs cells slots Q (F0 m (pc + 3) ls (v :: rest))) : W p l e R s m args below meth c H locs cells slots Q (F0 m pc ls (.ref (E.2.1.2.1 k) :: rest)) := by
  subst hv
  exact mx_get C hM cl_12 hk hf (by decide) qw_415 hdg kk
theorem gX12_28 {k : Nat} {fs : List (Nat × Nat)} {f : Nat × Nat} {v : Value} (C : mx_C E p m c cc nL s args RX12 meth ret) (hM : mx_H E s M H locs) (hk : E.1[k]? = some (.inl (12, fs))) (hf : fs[2]? = some f) (hv : mx_fv E.2.1 M k 2 f = v) (hdg : decode cc pc = .ok (.getfield 28, 3)) (kk : W p l e R s m args below meth c H locs cells slots Q (F0 m (pc + 3) ls (v :: rest))) : W p l e R s m args below meth c H locs cells slots Q (F0 m pc ls (.ref (E.2.1.2.1 k) :: rest)) := by
  subst hv
  exact mx_get C hM cl_12 hk hf (by decide) qw_416 hdg kk
theorem gX12_32 {k : Nat} {fs : List (Nat × Nat)} {f : Nat × Nat} {v : Value} (C : mx_C E p m c cc nL s args RX12 meth ret) (hM : mx_H E s M H locs) (hk : E.1[k]? = some (.inl (12, fs))) (hf : fs[3]? = some f) (hv : mx_fv E.2.1 M k 3 f = v) (hdg : decode cc pc = .ok (.getfield 32, 3)) (kk : W p l e R s m args below meth c H locs cells slots Q (F0 m (pc + 3) ls (v :: rest))) : W p l e R s m args below meth c H locs cells slots Q (F0 m pc ls (.ref (E.2.1.2.1 k) :: rest)) := by
  subst hv
  exact mx_get C hM cl_12 hk hf (by decide) qw_417 hdg kk
theorem gX12_40 {k : Nat} {fs : List (Nat × Nat)} {f : Nat × Nat} {v : Value} (C : mx_C E p m c cc nL s args RX12 meth ret) (hM : mx_H E s M H locs) (hk : E.1[k]? = some (.inl (12, fs))) (hf : fs[4]? = some f) (hv : mx_fv E.2.1 M k 4 f = v) (hdg : decode cc pc = .ok (.getfield 40, 3)) (kk : W p l e R s m args below meth c H locs cells slots Q (F0 m (pc + 3) ls (v :: rest))) : W p l e R s m args below meth c H locs cells slots Q (F0 m pc ls (.ref (E.2.1.2.1 k) :: rest)) := by
  subst hv
  exact mx_get C hM cl_12 hk hf (by decide) qw_418 hdg kk
theorem gX12_44 {k : Nat} {fs : List (Nat × Nat)} {f : Nat × Nat} {v : Value} (C : mx_C E p m c cc nL s args RX12 meth ret) (hM : mx_H E s M H locs) (hk : E.1[k]? = some (.inl (12, fs))) (hf : fs[5]? = some f) (hv : mx_fv E.2.1 M k 5 f = v) (hdg : decode cc pc = .ok (.getfield 44, 3)) (kk : W p l e R s m args below meth c H locs cells slots Q (F0 m (pc + 3) ls (v :: rest))) : W p l e R s m args below meth c H locs cells slots Q (F0 m pc ls (.ref (E.2.1.2.1 k) :: rest)) := by
  subst hv
  exact mx_get C hM cl_12 hk hf (by decide) qw_419 hdg kk
theorem gX12_47 {k : Nat} {fs : List (Nat × Nat)} {f : Nat × Nat} {v : Value} (C : mx_C E p m c cc nL s args RX12 meth ret) (hM : mx_H E s M H locs) (hk : E.1[k]? = some (.inl (12, fs))) (hf : fs[6]? = some f) (hv : mx_fv E.2.1 M k 6 f = v) (hdg : decode cc pc = .ok (.getfield 47, 3)) (kk : W p l e R s m args below meth c H locs cells slots Q (F0 m (pc + 3) ls (v :: rest))) : W p l e R s m args below meth c H locs cells slots Q (F0 m pc ls (.ref (E.2.1.2.1 k) :: rest)) := by
  subst hv
  exact mx_get C hM cl_12 hk hf (by decide) qw_420 hdg kk
theorem gX12_53 {k : Nat} {fs : List (Nat × Nat)} {f : Nat × Nat} {v : Value} (C : mx_C E p m c cc nL s args RX12 meth ret) (hM : mx_H E s M H locs) (hk : E.1[k]? = some (.inl (12, fs))) (hf : fs[7]? = some f) (hv : mx_fv E.2.1 M k 7 f = v) (hdg : decode cc pc = .ok (.getfield 53, 3)) (kk : W p l e R s m args below meth c H locs cells slots Q (F0 m (pc + 3) ls (v :: rest))) : W p l e R s m args below meth c H locs cells slots Q (F0 m pc ls (.ref (E.2.1.2.1 k) :: rest)) := by
  subst hv
  exact mx_get C hM cl_12 hk hf (by decide) qw_421 hdg kk
theorem gX12_60 {k : Nat} {fs : List (Nat × Nat)} {f : Nat × Nat} {v : Value} (C : mx_C E p m c cc nL s args RX12 meth ret) (hM : mx_H E s M H locs) (hk : E.1[k]? = some (.inl (12, fs))) (hf : fs[8]? = some f) (hv : mx_fv E.2.1 M k 8 f = v) (hdg : decode cc pc = .ok (.getfield 60, 3)) (kk : W p l e R s m args below meth c H locs cells slots Q (F0 m (pc + 3) ls (v :: rest))) : W p l e R s m args below meth c H locs cells slots Q (F0 m pc ls (.ref (E.2.1.2.1 k) :: rest)) := by
  subst hv
  exact mx_get C hM cl_12 hk hf (by decide) qw_422 hdg kk
theorem gX12_64 {k : Nat} {fs : List (Nat × Nat)} {f : Nat × Nat} {v : Value} (C : mx_C E p m c cc nL s args RX12 meth ret) (hM : mx_H E s M H locs) (hk : E.1[k]? = some (.inl (12, fs))) (hf : fs[9]? = some f) (hv : mx_fv E.2.1 M k 9 f = v) (hdg : decode cc pc = .ok (.getfield 64, 3)) (kk : W p l e R s m args below meth c H locs cells slots Q (F0 m (pc + 3) ls (v :: rest))) : W p l e R s m args below meth c H locs cells slots Q (F0 m pc ls (.ref (E.2.1.2.1 k) :: rest)) := by
  subst hv
  exact mx_get C hM cl_12 hk hf (by decide) qw_423 hdg kk
theorem gX12_70 {k : Nat} {fs : List (Nat × Nat)} {f : Nat × Nat} {v : Value} (C : mx_C E p m c cc nL s args RX12 meth ret) (hM : mx_H E s M H locs) (hk : E.1[k]? = some (.inl (12, fs))) (hf : fs[10]? = some f) (hv : mx_fv E.2.1 M k 10 f = v) (hdg : decode cc pc = .ok (.getfield 70, 3)) (kk : W p l e R s m args below meth c H locs cells slots Q (F0 m (pc + 3) ls (v :: rest))) : W p l e R s m args below meth c H locs cells slots Q (F0 m pc ls (.ref (E.2.1.2.1 k) :: rest)) := by
  subst hv
  exact mx_get C hM cl_12 hk hf (by decide) qw_424 hdg kk
theorem gX12_77 {k : Nat} {fs : List (Nat × Nat)} {f : Nat × Nat} {v : Value} (C : mx_C E p m c cc nL s args RX12 meth ret) (hM : mx_H E s M H locs) (hk : E.1[k]? = some (.inl (12, fs))) (hf : fs[11]? = some f) (hv : mx_fv E.2.1 M k 11 f = v) (hdg : decode cc pc = .ok (.getfield 77, 3)) (kk : W p l e R s m args below meth c H locs cells slots Q (F0 m (pc + 3) ls (v :: rest))) : W p l e R s m args below meth c H locs cells slots Q (F0 m pc ls (.ref (E.2.1.2.1 k) :: rest)) := by
  subst hv
  exact mx_get C hM cl_12 hk hf (by decide) qw_425 hdg kk
theorem gX12_84 {k : Nat} {fs : List (Nat × Nat)} {f : Nat × Nat} {v : Value} (C : mx_C E p m c cc nL s args RX12 meth ret) (hM : mx_H E s M H locs) (hk : E.1[k]? = some (.inl (12, fs))) (hf : fs[12]? = some f) (hv : mx_fv E.2.1 M k 12 f = v) (hdg : decode cc pc = .ok (.getfield 84, 3)) (kk : W p l e R s m args below meth c H locs cells slots Q (F0 m (pc + 3) ls (v :: rest))) : W p l e R s m args below meth c H locs cells slots Q (F0 m pc ls (.ref (E.2.1.2.1 k) :: rest)) := by
  subst hv
  exact mx_get C hM cl_12 hk hf (by decide) qw_426 hdg kk
theorem gX12_91 {k : Nat} {fs : List (Nat × Nat)} {f : Nat × Nat} {v : Value} (C : mx_C E p m c cc nL s args RX12 meth ret) (hM : mx_H E s M H locs) (hk : E.1[k]? = some (.inl (12, fs))) (hf : fs[13]? = some f) (hv : mx_fv E.2.1 M k 13 f = v) (hdg : decode cc pc = .ok (.getfield 91, 3)) (kk : W p l e R s m args below meth c H locs cells slots Q (F0 m (pc + 3) ls (v :: rest))) : W p l e R s m args below meth c H locs cells slots Q (F0 m pc ls (.ref (E.2.1.2.1 k) :: rest)) := by
  subst hv
  exact mx_get C hM cl_12 hk hf (by decide) qw_427 hdg kk
theorem gX12_95 {k : Nat} {fs : List (Nat × Nat)} {f : Nat × Nat} {v : Value} (C : mx_C E p m c cc nL s args RX12 meth ret) (hM : mx_H E s M H locs) (hk : E.1[k]? = some (.inl (12, fs))) (hf : fs[14]? = some f) (hv : mx_fv E.2.1 M k 14 f = v) (hdg : decode cc pc = .ok (.getfield 95, 3)) (kk : W p l e R s m args below meth c H locs cells slots Q (F0 m (pc + 3) ls (v :: rest))) : W p l e R s m args below meth c H locs cells slots Q (F0 m pc ls (.ref (E.2.1.2.1 k) :: rest)) := by
  subst hv
  exact mx_get C hM cl_12 hk hf (by decide) qw_428 hdg kk
theorem gX12_99 {k : Nat} {fs : List (Nat × Nat)} {f : Nat × Nat} {v : Value} (C : mx_C E p m c cc nL s args RX12 meth ret) (hM : mx_H E s M H locs) (hk : E.1[k]? = some (.inl (12, fs))) (hf : fs[15]? = some f) (hv : mx_fv E.2.1 M k 15 f = v) (hdg : decode cc pc = .ok (.getfield 99, 3)) (kk : W p l e R s m args below meth c H locs cells slots Q (F0 m (pc + 3) ls (v :: rest))) : W p l e R s m args below meth c H locs cells slots Q (F0 m pc ls (.ref (E.2.1.2.1 k) :: rest)) := by
  subst hv
  exact mx_get C hM cl_12 hk hf (by decide) qw_429 hdg kk
theorem gX12_103 {k : Nat} {fs : List (Nat × Nat)} {f : Nat × Nat} {v : Value} (C : mx_C E p m c cc nL s args RX12 meth ret) (hM : mx_H E s M H locs) (hk : E.1[k]? = some (.inl (12, fs))) (hf : fs[16]? = some f) (hv : mx_fv E.2.1 M k 16 f = v) (hdg : decode cc pc = .ok (.getfield 103, 3)) (kk : W p l e R s m args below meth c H locs cells slots Q (F0 m (pc + 3) ls (v :: rest))) : W p l e R s m args below meth c H locs cells slots Q (F0 m pc ls (.ref (E.2.1.2.1 k) :: rest)) := by
  subst hv
  exact mx_get C hM cl_12 hk hf (by decide) qw_430 hdg kk
theorem gX12_107 {k : Nat} {fs : List (Nat × Nat)} {f : Nat × Nat} {v : Value} (C : mx_C E p m c cc nL s args RX12 meth ret) (hM : mx_H E s M H locs) (hk : E.1[k]? = some (.inl (12, fs))) (hf : fs[17]? = some f) (hv : mx_fv E.2.1 M k 17 f = v) (hdg : decode cc pc = .ok (.getfield 107, 3)) (kk : W p l e R s m args below meth c H locs cells slots Q (F0 m (pc + 3) ls (v :: rest))) : W p l e R s m args below meth c H locs cells slots Q (F0 m pc ls (.ref (E.2.1.2.1 k) :: rest)) := by
  subst hv
  exact mx_get C hM cl_12 hk hf (by decide) qw_431 hdg kk
theorem gX12_119 {k : Nat} {fs : List (Nat × Nat)} {f : Nat × Nat} {v : Value} (C : mx_C E p m c cc nL s args RX12 meth ret) (hT : xOK E) (hM : mx_H E s M H locs) (hk : E.1[k]? = some (.inl (10, fs))) (hf : fs[1]? = some f) (hv : mx_fv E.2.1 M k 1 f = v) (hdg : decode cc pc = .ok (.getfield 119, 3)) (kk : W p l e R s m args below meth c H locs cells slots Q (F0 m (pc + 3) ls (v :: rest))) : W p l e R s m args below meth c H locs cells slots Q (F0 m pc ls (.ref (E.2.1.2.1 k) :: rest)) := by
  subst hv
  exact mx_getN C hM cl_10 hk hf (by decide) (nw_43 hT C) hdg kk
theorem gX12_137 {k : Nat} {fs : List (Nat × Nat)} {f : Nat × Nat} {v : Value} (C : mx_C E p m c cc nL s args RX12 meth ret) (hT : xOK E) (hM : mx_H E s M H locs) (hk : E.1[k]? = some (.inl (7, fs))) (hf : fs[10]? = some f) (hv : mx_fv E.2.1 M k 10 f = v) (hdg : decode cc pc = .ok (.getfield 137, 3)) (kk : W p l e R s m args below meth c H locs cells slots Q (F0 m (pc + 3) ls (v :: rest))) : W p l e R s m args below meth c H locs cells slots Q (F0 m pc ls (.ref (E.2.1.2.1 k) :: rest)) := by
  subst hv
  exact mx_getN C hM cl_7 hk hf (by decide) (nw_76 hT C) hdg kk
theorem gX12_140 {k : Nat} {fs : List (Nat × Nat)} {f : Nat × Nat} {v : Value} (C : mx_C E p m c cc nL s args RX12 meth ret) (hM : mx_H E s M H locs) (hk : E.1[k]? = some (.inl (12, fs))) (hf : fs[18]? = some f) (hv : mx_fv E.2.1 M k 18 f = v) (hdg : decode cc pc = .ok (.getfield 140, 3)) (kk : W p l e R s m args below meth c H locs cells slots Q (F0 m (pc + 3) ls (v :: rest))) : W p l e R s m args below meth c H locs cells slots Q (F0 m pc ls (.ref (E.2.1.2.1 k) :: rest)) := by
  subst hv
  exact mx_get C hM cl_12 hk hf (by decide) qw_432 hdg kk
theorem gX12_141 {k : Nat} {fs : List (Nat × Nat)} {f : Nat × Nat} {v : Value} (C : mx_C E p m c cc nL s args RX12 meth ret) (hT : xOK E) (hM : mx_H E s M H locs) (hk : E.1[k]? = some (.inl (7, fs))) (hf : fs[11]? = some f) (hv : mx_fv E.2.1 M k 11 f = v) (hdg : decode cc pc = .ok (.getfield 141, 3)) (kk : W p l e R s m args below meth c H locs cells slots Q (F0 m (pc + 3) ls (v :: rest))) : W p l e R s m args below meth c H locs cells slots Q (F0 m pc ls (.ref (E.2.1.2.1 k) :: rest)) := by
  subst hv
  exact mx_getN C hM cl_7 hk hf (by decide) (nw_78 hT C) hdg kk
theorem gX12_152 {k : Nat} {fs : List (Nat × Nat)} {f : Nat × Nat} {v : Value} (C : mx_C E p m c cc nL s args RX12 meth ret) (hT : xOK E) (hM : mx_H E s M H locs) (hk : E.1[k]? = some (.inl (3, fs))) (hf : fs[14]? = some f) (hv : mx_fv E.2.1 M k 14 f = v) (hdg : decode cc pc = .ok (.getfield 152, 3)) (kk : W p l e R s m args below meth c H locs cells slots Q (F0 m (pc + 3) ls (v :: rest))) : W p l e R s m args below meth c H locs cells slots Q (F0 m pc ls (.ref (E.2.1.2.1 k) :: rest)) := by
  subst hv
  exact mx_getN C hM cl_3 hk hf (by decide) (nw_156 hT C) hdg kk
theorem gX12_186 {k : Nat} {fs : List (Nat × Nat)} {f : Nat × Nat} {v : Value} (C : mx_C E p m c cc nL s args RX12 meth ret) (hT : xOK E) (hM : mx_H E s M H locs) (hk : E.1[k]? = some (.inl (3, fs))) (hf : fs[7]? = some f) (hv : mx_fv E.2.1 M k 7 f = v) (hdg : decode cc pc = .ok (.getfield 186, 3)) (kk : W p l e R s m args below meth c H locs cells slots Q (F0 m (pc + 3) ls (v :: rest))) : W p l e R s m args below meth c H locs cells slots Q (F0 m pc ls (.ref (E.2.1.2.1 k) :: rest)) := by
  subst hv
  exact mx_getN C hM cl_3 hk hf (by decide) (nw_135 hT C) hdg kk
theorem gX12_195 {k : Nat} {fs : List (Nat × Nat)} {f : Nat × Nat} {v : Value} (C : mx_C E p m c cc nL s args RX12 meth ret) (hT : xOK E) (hM : mx_H E s M H locs) (hk : E.1[k]? = some (.inl (3, fs))) (hf : fs[10]? = some f) (hv : mx_fv E.2.1 M k 10 f = v) (hdg : decode cc pc = .ok (.getfield 195, 3)) (kk : W p l e R s m args below meth c H locs cells slots Q (F0 m (pc + 3) ls (v :: rest))) : W p l e R s m args below meth c H locs cells slots Q (F0 m pc ls (.ref (E.2.1.2.1 k) :: rest)) := by
  subst hv
  exact mx_getN C hM cl_3 hk hf (by decide) (nw_146 hT C) hdg kk
theorem gX12_201 {k : Nat} {fs : List (Nat × Nat)} {f : Nat × Nat} {v : Value} (C : mx_C E p m c cc nL s args RX12 meth ret) (hT : xOK E) (hM : mx_H E s M H locs) (hk : E.1[k]? = some (.inl (9, fs))) (hf : fs[8]? = some f) (hv : mx_fv E.2.1 M k 8 f = v) (hdg : decode cc pc = .ok (.getfield 201, 3)) (kk : W p l e R s m args below meth c H locs cells slots Q (F0 m (pc + 3) ls (v :: rest))) : W p l e R s m args below meth c H locs cells slots Q (F0 m pc ls (.ref (E.2.1.2.1 k) :: rest)) := by
  subst hv
  exact mx_getN C hM cl_9 hk hf (by decide) (nw_224 hT C) hdg kk
theorem gX12_214 {k : Nat} {fs : List (Nat × Nat)} {f : Nat × Nat} {v : Value} (C : mx_C E p m c cc nL s args RX12 meth ret) (hT : xOK E) (hM : mx_H E s M H locs) (hk : E.1[k]? = some (.inl (9, fs))) (hf : fs[9]? = some f) (hv : mx_fv E.2.1 M k 9 f = v) (hdg : decode cc pc = .ok (.getfield 214, 3)) (kk : W p l e R s m args below meth c H locs cells slots Q (F0 m (pc + 3) ls (v :: rest))) : W p l e R s m args below meth c H locs cells slots Q (F0 m pc ls (.ref (E.2.1.2.1 k) :: rest)) := by
  subst hv
  exact mx_getN C hM cl_9 hk hf (by decide) (nw_226 hT C) hdg kk
theorem gX12_223 {k : Nat} {fs : List (Nat × Nat)} {f : Nat × Nat} {v : Value} (C : mx_C E p m c cc nL s args RX12 meth ret) (hT : xOK E) (hM : mx_H E s M H locs) (hk : E.1[k]? = some (.inl (9, fs))) (hf : fs[10]? = some f) (hv : mx_fv E.2.1 M k 10 f = v) (hdg : decode cc pc = .ok (.getfield 223, 3)) (kk : W p l e R s m args below meth c H locs cells slots Q (F0 m (pc + 3) ls (v :: rest))) : W p l e R s m args below meth c H locs cells slots Q (F0 m pc ls (.ref (E.2.1.2.1 k) :: rest)) := by
  subst hv
  exact mx_getN C hM cl_9 hk hf (by decide) (nw_229 hT C) hdg kk
theorem gX12_226 {k : Nat} {fs : List (Nat × Nat)} {f : Nat × Nat} {v : Value} (C : mx_C E p m c cc nL s args RX12 meth ret) (hT : xOK E) (hM : mx_H E s M H locs) (hk : E.1[k]? = some (.inl (9, fs))) (hf : fs[11]? = some f) (hv : mx_fv E.2.1 M k 11 f = v) (hdg : decode cc pc = .ok (.getfield 226, 3)) (kk : W p l e R s m args below meth c H locs cells slots Q (F0 m (pc + 3) ls (v :: rest))) : W p l e R s m args below meth c H locs cells slots Q (F0 m pc ls (.ref (E.2.1.2.1 k) :: rest)) := by
  subst hv
  exact mx_getN C hM cl_9 hk hf (by decide) (nw_231 hT C) hdg kk
theorem gX12_261 {k : Nat} {fs : List (Nat × Nat)} {f : Nat × Nat} {v : Value} (C : mx_C E p m c cc nL s args RX12 meth ret) (hT : xOK E) (hM : mx_H E s M H locs) (hk : E.1[k]? = some (.inl (5, fs))) (hf : fs[1]? = some f) (hv : mx_fv E.2.1 M k 1 f = v) (hdg : decode cc pc = .ok (.getfield 261, 3)) (kk : W p l e R s m args below meth c H locs cells slots Q (F0 m (pc + 3) ls (v :: rest))) : W p l e R s m args below meth c H locs cells slots Q (F0 m pc ls (.ref (E.2.1.2.1 k) :: rest)) := by
  subst hv
  exact mx_getN C hM cl_5 hk hf (by decide) (nw_271 hT C) hdg kk
theorem gX12_269 {k : Nat} {fs : List (Nat × Nat)} {f : Nat × Nat} {v : Value} (C : mx_C E p m c cc nL s args RX12 meth ret) (hT : xOK E) (hM : mx_H E s M H locs) (hk : E.1[k]? = some (.inl (3, fs))) (hf : fs[1]? = some f) (hv : mx_fv E.2.1 M k 1 f = v) (hdg : decode cc pc = .ok (.getfield 269, 3)) (kk : W p l e R s m args below meth c H locs cells slots Q (F0 m (pc + 3) ls (v :: rest))) : W p l e R s m args below meth c H locs cells slots Q (F0 m pc ls (.ref (E.2.1.2.1 k) :: rest)) := by
  subst hv
  exact mx_getN C hM cl_3 hk hf (by decide) (nw_122 hT C) hdg kk
theorem gX12_276 {k : Nat} {fs : List (Nat × Nat)} {f : Nat × Nat} {v : Value} (C : mx_C E p m c cc nL s args RX12 meth ret) (hT : xOK E) (hM : mx_H E s M H locs) (hk : E.1[k]? = some (.inl (6, fs))) (hf : fs[1]? = some f) (hv : mx_fv E.2.1 M k 1 f = v) (hdg : decode cc pc = .ok (.getfield 276, 3)) (kk : W p l e R s m args below meth c H locs cells slots Q (F0 m (pc + 3) ls (v :: rest))) : W p l e R s m args below meth c H locs cells slots Q (F0 m pc ls (.ref (E.2.1.2.1 k) :: rest)) := by
  subst hv
  exact mx_getN C hM cl_6 hk hf (by decide) (nw_353 hT C) hdg kk
theorem gX12_279 {k : Nat} {fs : List (Nat × Nat)} {f : Nat × Nat} {v : Value} (C : mx_C E p m c cc nL s args RX12 meth ret) (hT : xOK E) (hM : mx_H E s M H locs) (hk : E.1[k]? = some (.inl (6, fs))) (hf : fs[0]? = some f) (hv : mx_fv E.2.1 M k 0 f = v) (hdg : decode cc pc = .ok (.getfield 279, 3)) (kk : W p l e R s m args below meth c H locs cells slots Q (F0 m (pc + 3) ls (v :: rest))) : W p l e R s m args below meth c H locs cells slots Q (F0 m pc ls (.ref (E.2.1.2.1 k) :: rest)) := by
  subst hv
  exact mx_getN C hM cl_6 hk hf (by decide) (nw_351 hT C) hdg kk
theorem gX12_286 {k : Nat} {fs : List (Nat × Nat)} {f : Nat × Nat} {v : Value} (C : mx_C E p m c cc nL s args RX12 meth ret) (hT : xOK E) (hM : mx_H E s M H locs) (hk : E.1[k]? = some (.inl (6, fs))) (hf : fs[2]? = some f) (hv : mx_fv E.2.1 M k 2 f = v) (hdg : decode cc pc = .ok (.getfield 286, 3)) (kk : W p l e R s m args below meth c H locs cells slots Q (F0 m (pc + 3) ls (v :: rest))) : W p l e R s m args below meth c H locs cells slots Q (F0 m pc ls (.ref (E.2.1.2.1 k) :: rest)) := by
  subst hv
  exact mx_getN C hM cl_6 hk hf (by decide) (nw_355 hT C) hdg kk
theorem gX12_293 {k : Nat} {fs : List (Nat × Nat)} {f : Nat × Nat} {v : Value} (C : mx_C E p m c cc nL s args RX12 meth ret) (hT : xOK E) (hM : mx_H E s M H locs) (hk : E.1[k]? = some (.inl (2, fs))) (hf : fs[0]? = some f) (hv : mx_fv E.2.1 M k 0 f = v) (hdg : decode cc pc = .ok (.getfield 293, 3)) (kk : W p l e R s m args below meth c H locs cells slots Q (F0 m (pc + 3) ls (v :: rest))) : W p l e R s m args below meth c H locs cells slots Q (F0 m pc ls (.ref (E.2.1.2.1 k) :: rest)) := by
  subst hv
  exact mx_getN C hM cl_2 hk hf (by decide) (nw_383 hT C) hdg kk
theorem gX12_296 {k : Nat} {fs : List (Nat × Nat)} {f : Nat × Nat} {v : Value} (C : mx_C E p m c cc nL s args RX12 meth ret) (hT : xOK E) (hM : mx_H E s M H locs) (hk : E.1[k]? = some (.inl (2, fs))) (hf : fs[1]? = some f) (hv : mx_fv E.2.1 M k 1 f = v) (hdg : decode cc pc = .ok (.getfield 296, 3)) (kk : W p l e R s m args below meth c H locs cells slots Q (F0 m (pc + 3) ls (v :: rest))) : W p l e R s m args below meth c H locs cells slots Q (F0 m pc ls (.ref (E.2.1.2.1 k) :: rest)) := by
  subst hv
  exact mx_getN C hM cl_2 hk hf (by decide) (nw_385 hT C) hdg kk
theorem gX12_315 {k : Nat} {fs : List (Nat × Nat)} {f : Nat × Nat} {v : Value} (C : mx_C E p m c cc nL s args RX12 meth ret) (hT : xOK E) (hM : mx_H E s M H locs) (hk : E.1[k]? = some (.inl (6, fs))) (hf : fs[3]? = some f) (hv : mx_fv E.2.1 M k 3 f = v) (hdg : decode cc pc = .ok (.getfield 315, 3)) (kk : W p l e R s m args below meth c H locs cells slots Q (F0 m (pc + 3) ls (v :: rest))) : W p l e R s m args below meth c H locs cells slots Q (F0 m pc ls (.ref (E.2.1.2.1 k) :: rest)) := by
  subst hv
  exact mx_getN C hM cl_6 hk hf (by decide) (nw_357 hT C) hdg kk
theorem gX12_322 {k : Nat} {fs : List (Nat × Nat)} {f : Nat × Nat} {v : Value} (C : mx_C E p m c cc nL s args RX12 meth ret) (hT : xOK E) (hM : mx_H E s M H locs) (hk : E.1[k]? = some (.inl (4, fs))) (hf : fs[1]? = some f) (hv : mx_fv E.2.1 M k 1 f = v) (hdg : decode cc pc = .ok (.getfield 322, 3)) (kk : W p l e R s m args below meth c H locs cells slots Q (F0 m (pc + 3) ls (v :: rest))) : W p l e R s m args below meth c H locs cells slots Q (F0 m pc ls (.ref (E.2.1.2.1 k) :: rest)) := by
  subst hv
  exact mx_getN C hM cl_4 hk hf (by decide) (nw_406 hT C) hdg kk
theorem gX12_323 {k : Nat} {fs : List (Nat × Nat)} {f : Nat × Nat} {v : Value} (C : mx_C E p m c cc nL s args RX12 meth ret) (hT : xOK E) (hM : mx_H E s M H locs) (hk : E.1[k]? = some (.inl (4, fs))) (hf : fs[0]? = some f) (hv : mx_fv E.2.1 M k 0 f = v) (hdg : decode cc pc = .ok (.getfield 323, 3)) (kk : W p l e R s m args below meth c H locs cells slots Q (F0 m (pc + 3) ls (v :: rest))) : W p l e R s m args below meth c H locs cells slots Q (F0 m pc ls (.ref (E.2.1.2.1 k) :: rest)) := by
  subst hv
  exact mx_getN C hM cl_4 hk hf (by decide) (nw_404 hT C) hdg kk
theorem gX12_339 {k : Nat} {fs : List (Nat × Nat)} {f : Nat × Nat} {v : Value} (C : mx_C E p m c cc nL s args RX12 meth ret) (hT : xOK E) (hM : mx_H E s M H locs) (hk : E.1[k]? = some (.inl (1, fs))) (hf : fs[7]? = some f) (hv : mx_fv E.2.1 M k 7 f = v) (hdg : decode cc pc = .ok (.getfield 339, 3)) (kk : W p l e R s m args below meth c H locs cells slots Q (F0 m (pc + 3) ls (v :: rest))) : W p l e R s m args below meth c H locs cells slots Q (F0 m pc ls (.ref (E.2.1.2.1 k) :: rest)) := by
  subst hv
  exact mx_getN C hM cl_1 hk hf (by decide) (nw_318 hT C) hdg kk
theorem gX12_345 {k : Nat} {fs : List (Nat × Nat)} {f : Nat × Nat} {v : Value} (C : mx_C E p m c cc nL s args RX12 meth ret) (hT : xOK E) (hM : mx_H E s M H locs) (hk : E.1[k]? = some (.inl (1, fs))) (hf : fs[5]? = some f) (hv : mx_fv E.2.1 M k 5 f = v) (hdg : decode cc pc = .ok (.getfield 345, 3)) (kk : W p l e R s m args below meth c H locs cells slots Q (F0 m (pc + 3) ls (v :: rest))) : W p l e R s m args below meth c H locs cells slots Q (F0 m pc ls (.ref (E.2.1.2.1 k) :: rest)) := by
  subst hv
  exact mx_getN C hM cl_1 hk hf (by decide) (nw_314 hT C) hdg kk
theorem gX12_349 {k : Nat} {fs : List (Nat × Nat)} {f : Nat × Nat} {v : Value} (C : mx_C E p m c cc nL s args RX12 meth ret) (hT : xOK E) (hM : mx_H E s M H locs) (hk : E.1[k]? = some (.inl (1, fs))) (hf : fs[6]? = some f) (hv : mx_fv E.2.1 M k 6 f = v) (hdg : decode cc pc = .ok (.getfield 349, 3)) (kk : W p l e R s m args below meth c H locs cells slots Q (F0 m (pc + 3) ls (v :: rest))) : W p l e R s m args below meth c H locs cells slots Q (F0 m pc ls (.ref (E.2.1.2.1 k) :: rest)) := by
  subst hv
  exact mx_getN C hM cl_1 hk hf (by decide) (nw_316 hT C) hdg kk
theorem gX12_352 {k : Nat} {fs : List (Nat × Nat)} {f : Nat × Nat} {v : Value} (C : mx_C E p m c cc nL s args RX12 meth ret) (hT : xOK E) (hM : mx_H E s M H locs) (hk : E.1[k]? = some (.inl (1, fs))) (hf : fs[8]? = some f) (hv : mx_fv E.2.1 M k 8 f = v) (hdg : decode cc pc = .ok (.getfield 352, 3)) (kk : W p l e R s m args below meth c H locs cells slots Q (F0 m (pc + 3) ls (v :: rest))) : W p l e R s m args below meth c H locs cells slots Q (F0 m pc ls (.ref (E.2.1.2.1 k) :: rest)) := by
  subst hv
  exact mx_getN C hM cl_1 hk hf (by decide) (nw_320 hT C) hdg kk
theorem gX12_355 {k : Nat} {fs : List (Nat × Nat)} {f : Nat × Nat} {v : Value} (C : mx_C E p m c cc nL s args RX12 meth ret) (hT : xOK E) (hM : mx_H E s M H locs) (hk : E.1[k]? = some (.inl (1, fs))) (hf : fs[9]? = some f) (hv : mx_fv E.2.1 M k 9 f = v) (hdg : decode cc pc = .ok (.getfield 355, 3)) (kk : W p l e R s m args below meth c H locs cells slots Q (F0 m (pc + 3) ls (v :: rest))) : W p l e R s m args below meth c H locs cells slots Q (F0 m pc ls (.ref (E.2.1.2.1 k) :: rest)) := by
  subst hv
  exact mx_getN C hM cl_1 hk hf (by decide) (nw_322 hT C) hdg kk
theorem gX12_362 {k : Nat} {fs : List (Nat × Nat)} {f : Nat × Nat} {v : Value} (C : mx_C E p m c cc nL s args RX12 meth ret) (hT : xOK E) (hM : mx_H E s M H locs) (hk : E.1[k]? = some (.inl (8, fs))) (hf : fs[4]? = some f) (hv : mx_fv E.2.1 M k 4 f = v) (hdg : decode cc pc = .ok (.getfield 362, 3)) (kk : W p l e R s m args below meth c H locs cells slots Q (F0 m (pc + 3) ls (v :: rest))) : W p l e R s m args below meth c H locs cells slots Q (F0 m pc ls (.ref (E.2.1.2.1 k) :: rest)) := by
  subst hv
  exact mx_getN C hM cl_8 hk hf (by decide) (nw_290 hT C) hdg kk
theorem gX12_365 {k : Nat} {fs : List (Nat × Nat)} {f : Nat × Nat} {v : Value} (C : mx_C E p m c cc nL s args RX12 meth ret) (hT : xOK E) (hM : mx_H E s M H locs) (hk : E.1[k]? = some (.inl (3, fs))) (hf : fs[0]? = some f) (hv : mx_fv E.2.1 M k 0 f = v) (hdg : decode cc pc = .ok (.getfield 365, 3)) (kk : W p l e R s m args below meth c H locs cells slots Q (F0 m (pc + 3) ls (v :: rest))) : W p l e R s m args below meth c H locs cells slots Q (F0 m pc ls (.ref (E.2.1.2.1 k) :: rest)) := by
  subst hv
  exact mx_getN C hM cl_3 hk hf (by decide) (nw_116 hT C) hdg kk
theorem gX12_372 {k : Nat} {fs : List (Nat × Nat)} {f : Nat × Nat} {v : Value} (C : mx_C E p m c cc nL s args RX12 meth ret) (hT : xOK E) (hM : mx_H E s M H locs) (hk : E.1[k]? = some (.inl (3, fs))) (hf : fs[11]? = some f) (hv : mx_fv E.2.1 M k 11 f = v) (hdg : decode cc pc = .ok (.getfield 372, 3)) (kk : W p l e R s m args below meth c H locs cells slots Q (F0 m (pc + 3) ls (v :: rest))) : W p l e R s m args below meth c H locs cells slots Q (F0 m pc ls (.ref (E.2.1.2.1 k) :: rest)) := by
  subst hv
  exact mx_getN C hM cl_3 hk hf (by decide) (nw_149 hT C) hdg kk
theorem gX12_375 {k : Nat} {fs : List (Nat × Nat)} {f : Nat × Nat} {v : Value} (C : mx_C E p m c cc nL s args RX12 meth ret) (hT : xOK E) (hM : mx_H E s M H locs) (hk : E.1[k]? = some (.inl (3, fs))) (hf : fs[12]? = some f) (hv : mx_fv E.2.1 M k 12 f = v) (hdg : decode cc pc = .ok (.getfield 375, 3)) (kk : W p l e R s m args below meth c H locs cells slots Q (F0 m (pc + 3) ls (v :: rest))) : W p l e R s m args below meth c H locs cells slots Q (F0 m pc ls (.ref (E.2.1.2.1 k) :: rest)) := by
  subst hv
  exact mx_getN C hM cl_3 hk hf (by decide) (nw_152 hT C) hdg kk
theorem gX12_378 {k : Nat} {fs : List (Nat × Nat)} {f : Nat × Nat} {v : Value} (C : mx_C E p m c cc nL s args RX12 meth ret) (hT : xOK E) (hM : mx_H E s M H locs) (hk : E.1[k]? = some (.inl (3, fs))) (hf : fs[13]? = some f) (hv : mx_fv E.2.1 M k 13 f = v) (hdg : decode cc pc = .ok (.getfield 378, 3)) (kk : W p l e R s m args below meth c H locs cells slots Q (F0 m (pc + 3) ls (v :: rest))) : W p l e R s m args below meth c H locs cells slots Q (F0 m pc ls (.ref (E.2.1.2.1 k) :: rest)) := by
  subst hv
  exact mx_getN C hM cl_3 hk hf (by decide) (nw_155 hT C) hdg kk
theorem gX2_18 {k : Nat} {fs : List (Nat × Nat)} {f : Nat × Nat} {v : Value} (C : mx_C E p m c cc nL s args RX2 meth ret) (hM : mx_H E s M H locs) (hk : E.1[k]? = some (.inl (2, fs))) (hf : fs[2]? = some f) (hv : mx_fv E.2.1 M k 2 f = v) (hdg : decode cc pc = .ok (.getfield 18, 3)) (kk : W p l e R s m args below meth c H locs cells slots Q (F0 m (pc + 3) ls (v :: rest))) : W p l e R s m args below meth c H locs cells slots Q (F0 m pc ls (.ref (E.2.1.2.1 k) :: rest)) := by
  subst hv
  exact mx_get C hM cl_2 hk hf (by decide) qw_386 hdg kk
theorem gX2_22 {k : Nat} {fs : List (Nat × Nat)} {f : Nat × Nat} {v : Value} (C : mx_C E p m c cc nL s args RX2 meth ret) (hM : mx_H E s M H locs) (hk : E.1[k]? = some (.inl (2, fs))) (hf : fs[3]? = some f) (hv : mx_fv E.2.1 M k 3 f = v) (hdg : decode cc pc = .ok (.getfield 22, 3)) (kk : W p l e R s m args below meth c H locs cells slots Q (F0 m (pc + 3) ls (v :: rest))) : W p l e R s m args below meth c H locs cells slots Q (F0 m pc ls (.ref (E.2.1.2.1 k) :: rest)) := by
  subst hv
  exact mx_get C hM cl_2 hk hf (by decide) qw_387 hdg kk
theorem gX2_43 {k : Nat} {fs : List (Nat × Nat)} {f : Nat × Nat} {v : Value} (C : mx_C E p m c cc nL s args RX2 meth ret) (hT : xOK E) (hM : mx_H E s M H locs) (hk : E.1[k]? = some (.inl (10, fs))) (hf : fs[1]? = some f) (hv : mx_fv E.2.1 M k 1 f = v) (hdg : decode cc pc = .ok (.getfield 43, 3)) (kk : W p l e R s m args below meth c H locs cells slots Q (F0 m (pc + 3) ls (v :: rest))) : W p l e R s m args below meth c H locs cells slots Q (F0 m pc ls (.ref (E.2.1.2.1 k) :: rest)) := by
  subst hv
  exact mx_getN C hM cl_10 hk hf (by decide) (nw_44 hT C) hdg kk
theorem gX2_61 {k : Nat} {fs : List (Nat × Nat)} {f : Nat × Nat} {v : Value} (C : mx_C E p m c cc nL s args RX2 meth ret) (hT : xOK E) (hM : mx_H E s M H locs) (hk : E.1[k]? = some (.inl (3, fs))) (hf : fs[0]? = some f) (hv : mx_fv E.2.1 M k 0 f = v) (hdg : decode cc pc = .ok (.getfield 61, 3)) (kk : W p l e R s m args below meth c H locs cells slots Q (F0 m (pc + 3) ls (v :: rest))) : W p l e R s m args below meth c H locs cells slots Q (F0 m pc ls (.ref (E.2.1.2.1 k) :: rest)) := by
  subst hv
  exact mx_getN C hM cl_3 hk hf (by decide) (nw_115 hT C) hdg kk
theorem gX2_76 {k : Nat} {fs : List (Nat × Nat)} {f : Nat × Nat} {v : Value} (C : mx_C E p m c cc nL s args RX2 meth ret) (hT : xOK E) (hM : mx_H E s M H locs) (hk : E.1[k]? = some (.inl (3, fs))) (hf : fs[1]? = some f) (hv : mx_fv E.2.1 M k 1 f = v) (hdg : decode cc pc = .ok (.getfield 76, 3)) (kk : W p l e R s m args below meth c H locs cells slots Q (F0 m (pc + 3) ls (v :: rest))) : W p l e R s m args below meth c H locs cells slots Q (F0 m pc ls (.ref (E.2.1.2.1 k) :: rest)) := by
  subst hv
  exact mx_getN C hM cl_3 hk hf (by decide) (nw_121 hT C) hdg kk
theorem gX2_87 {k : Nat} {fs : List (Nat × Nat)} {f : Nat × Nat} {v : Value} (C : mx_C E p m c cc nL s args RX2 meth ret) (hT : xOK E) (hM : mx_H E s M H locs) (hk : E.1[k]? = some (.inl (3, fs))) (hf : fs[7]? = some f) (hv : mx_fv E.2.1 M k 7 f = v) (hdg : decode cc pc = .ok (.getfield 87, 3)) (kk : W p l e R s m args below meth c H locs cells slots Q (F0 m (pc + 3) ls (v :: rest))) : W p l e R s m args below meth c H locs cells slots Q (F0 m pc ls (.ref (E.2.1.2.1 k) :: rest)) := by
  subst hv
  exact mx_getN C hM cl_3 hk hf (by decide) (nw_136 hT C) hdg kk
theorem gX3_9 {k : Nat} {fs : List (Nat × Nat)} {f : Nat × Nat} {v : Value} (C : mx_C E p m c cc nL s args RX3 meth ret) (hM : mx_H E s M H locs) (hk : E.1[k]? = some (.inl (3, fs))) (hf : fs[2]? = some f) (hv : mx_fv E.2.1 M k 2 f = v) (hdg : decode cc pc = .ok (.getfield 9, 3)) (kk : W p l e R s m args below meth c H locs cells slots Q (F0 m (pc + 3) ls (v :: rest))) : W p l e R s m args below meth c H locs cells slots Q (F0 m pc ls (.ref (E.2.1.2.1 k) :: rest)) := by
  subst hv
  exact mx_get C hM cl_3 hk hf (by decide) qw_123 hdg kk
theorem gX3_15 {k : Nat} {fs : List (Nat × Nat)} {f : Nat × Nat} {v : Value} (C : mx_C E p m c cc nL s args RX3 meth ret) (hM : mx_H E s M H locs) (hk : E.1[k]? = some (.inl (3, fs))) (hf : fs[3]? = some f) (hv : mx_fv E.2.1 M k 3 f = v) (hdg : decode cc pc = .ok (.getfield 15, 3)) (kk : W p l e R s m args below meth c H locs cells slots Q (F0 m (pc + 3) ls (v :: rest))) : W p l e R s m args below meth c H locs cells slots Q (F0 m pc ls (.ref (E.2.1.2.1 k) :: rest)) := by
  subst hv
  exact mx_get C hM cl_3 hk hf (by decide) qw_125 hdg kk
theorem gX3_19 {k : Nat} {fs : List (Nat × Nat)} {f : Nat × Nat} {v : Value} (C : mx_C E p m c cc nL s args RX3 meth ret) (hM : mx_H E s M H locs) (hk : E.1[k]? = some (.inl (3, fs))) (hf : fs[4]? = some f) (hv : mx_fv E.2.1 M k 4 f = v) (hdg : decode cc pc = .ok (.getfield 19, 3)) (kk : W p l e R s m args below meth c H locs cells slots Q (F0 m (pc + 3) ls (v :: rest))) : W p l e R s m args below meth c H locs cells slots Q (F0 m pc ls (.ref (E.2.1.2.1 k) :: rest)) := by
  subst hv
  exact mx_get C hM cl_3 hk hf (by decide) qw_127 hdg kk
theorem gX3_22 {k : Nat} {fs : List (Nat × Nat)} {f : Nat × Nat} {v : Value} (C : mx_C E p m c cc nL s args RX3 meth ret) (hM : mx_H E s M H locs) (hk : E.1[k]? = some (.inl (3, fs))) (hf : fs[5]? = some f) (hv : mx_fv E.2.1 M k 5 f = v) (hdg : decode cc pc = .ok (.getfield 22, 3)) (kk : W p l e R s m args below meth c H locs cells slots Q (F0 m (pc + 3) ls (v :: rest))) : W p l e R s m args below meth c H locs cells slots Q (F0 m pc ls (.ref (E.2.1.2.1 k) :: rest)) := by
  subst hv
  exact mx_get C hM cl_3 hk hf (by decide) qw_129 hdg kk
theorem gX3_25 {k : Nat} {fs : List (Nat × Nat)} {f : Nat × Nat} {v : Value} (C : mx_C E p m c cc nL s args RX3 meth ret) (hM : mx_H E s M H locs) (hk : E.1[k]? = some (.inl (3, fs))) (hf : fs[6]? = some f) (hv : mx_fv E.2.1 M k 6 f = v) (hdg : decode cc pc = .ok (.getfield 25, 3)) (kk : W p l e R s m args below meth c H locs cells slots Q (F0 m (pc + 3) ls (v :: rest))) : W p l e R s m args below meth c H locs cells slots Q (F0 m pc ls (.ref (E.2.1.2.1 k) :: rest)) := by
  subst hv
  exact mx_get C hM cl_3 hk hf (by decide) qw_132 hdg kk
theorem gX3_28 {k : Nat} {fs : List (Nat × Nat)} {f : Nat × Nat} {v : Value} (C : mx_C E p m c cc nL s args RX3 meth ret) (hM : mx_H E s M H locs) (hk : E.1[k]? = some (.inl (3, fs))) (hf : fs[7]? = some f) (hv : mx_fv E.2.1 M k 7 f = v) (hdg : decode cc pc = .ok (.getfield 28, 3)) (kk : W p l e R s m args below meth c H locs cells slots Q (F0 m (pc + 3) ls (v :: rest))) : W p l e R s m args below meth c H locs cells slots Q (F0 m pc ls (.ref (E.2.1.2.1 k) :: rest)) := by
  subst hv
  exact mx_get C hM cl_3 hk hf (by decide) qw_134 hdg kk
theorem gX3_31 {k : Nat} {fs : List (Nat × Nat)} {f : Nat × Nat} {v : Value} (C : mx_C E p m c cc nL s args RX3 meth ret) (hM : mx_H E s M H locs) (hk : E.1[k]? = some (.inl (3, fs))) (hf : fs[8]? = some f) (hv : mx_fv E.2.1 M k 8 f = v) (hdg : decode cc pc = .ok (.getfield 31, 3)) (kk : W p l e R s m args below meth c H locs cells slots Q (F0 m (pc + 3) ls (v :: rest))) : W p l e R s m args below meth c H locs cells slots Q (F0 m pc ls (.ref (E.2.1.2.1 k) :: rest)) := by
  subst hv
  exact mx_get C hM cl_3 hk hf (by decide) qw_138 hdg kk
theorem gX3_34 {k : Nat} {fs : List (Nat × Nat)} {f : Nat × Nat} {v : Value} (C : mx_C E p m c cc nL s args RX3 meth ret) (hM : mx_H E s M H locs) (hk : E.1[k]? = some (.inl (3, fs))) (hf : fs[9]? = some f) (hv : mx_fv E.2.1 M k 9 f = v) (hdg : decode cc pc = .ok (.getfield 34, 3)) (kk : W p l e R s m args below meth c H locs cells slots Q (F0 m (pc + 3) ls (v :: rest))) : W p l e R s m args below meth c H locs cells slots Q (F0 m pc ls (.ref (E.2.1.2.1 k) :: rest)) := by
  subst hv
  exact mx_get C hM cl_3 hk hf (by decide) qw_143 hdg kk
theorem gX3_37 {k : Nat} {fs : List (Nat × Nat)} {f : Nat × Nat} {v : Value} (C : mx_C E p m c cc nL s args RX3 meth ret) (hM : mx_H E s M H locs) (hk : E.1[k]? = some (.inl (3, fs))) (hf : fs[10]? = some f) (hv : mx_fv E.2.1 M k 10 f = v) (hdg : decode cc pc = .ok (.getfield 37, 3)) (kk : W p l e R s m args below meth c H locs cells slots Q (F0 m (pc + 3) ls (v :: rest))) : W p l e R s m args below meth c H locs cells slots Q (F0 m pc ls (.ref (E.2.1.2.1 k) :: rest)) := by
  subst hv
  exact mx_get C hM cl_3 hk hf (by decide) qw_145 hdg kk
theorem gX3_40 {k : Nat} {fs : List (Nat × Nat)} {f : Nat × Nat} {v : Value} (C : mx_C E p m c cc nL s args RX3 meth ret) (hM : mx_H E s M H locs) (hk : E.1[k]? = some (.inl (3, fs))) (hf : fs[11]? = some f) (hv : mx_fv E.2.1 M k 11 f = v) (hdg : decode cc pc = .ok (.getfield 40, 3)) (kk : W p l e R s m args below meth c H locs cells slots Q (F0 m (pc + 3) ls (v :: rest))) : W p l e R s m args below meth c H locs cells slots Q (F0 m pc ls (.ref (E.2.1.2.1 k) :: rest)) := by
  subst hv
  exact mx_get C hM cl_3 hk hf (by decide) qw_148 hdg kk
theorem gX3_44 {k : Nat} {fs : List (Nat × Nat)} {f : Nat × Nat} {v : Value} (C : mx_C E p m c cc nL s args RX3 meth ret) (hM : mx_H E s M H locs) (hk : E.1[k]? = some (.inl (3, fs))) (hf : fs[12]? = some f) (hv : mx_fv E.2.1 M k 12 f = v) (hdg : decode cc pc = .ok (.getfield 44, 3)) (kk : W p l e R s m args below meth c H locs cells slots Q (F0 m (pc + 3) ls (v :: rest))) : W p l e R s m args below meth c H locs cells slots Q (F0 m pc ls (.ref (E.2.1.2.1 k) :: rest)) := by
  subst hv
  exact mx_get C hM cl_3 hk hf (by decide) qw_150 hdg kk
theorem gX3_47 {k : Nat} {fs : List (Nat × Nat)} {f : Nat × Nat} {v : Value} (C : mx_C E p m c cc nL s args RX3 meth ret) (hM : mx_H E s M H locs) (hk : E.1[k]? = some (.inl (3, fs))) (hf : fs[13]? = some f) (hv : mx_fv E.2.1 M k 13 f = v) (hdg : decode cc pc = .ok (.getfield 47, 3)) (kk : W p l e R s m args below meth c H locs cells slots Q (F0 m (pc + 3) ls (v :: rest))) : W p l e R s m args below meth c H locs cells slots Q (F0 m pc ls (.ref (E.2.1.2.1 k) :: rest)) := by
  subst hv
  exact mx_get C hM cl_3 hk hf (by decide) qw_153 hdg kk
theorem gX3_50 {k : Nat} {fs : List (Nat × Nat)} {f : Nat × Nat} {v : Value} (C : mx_C E p m c cc nL s args RX3 meth ret) (hM : mx_H E s M H locs) (hk : E.1[k]? = some (.inl (3, fs))) (hf : fs[0]? = some f) (hv : mx_fv E.2.1 M k 0 f = v) (hdg : decode cc pc = .ok (.getfield 50, 3)) (kk : W p l e R s m args below meth c H locs cells slots Q (F0 m (pc + 3) ls (v :: rest))) : W p l e R s m args below meth c H locs cells slots Q (F0 m pc ls (.ref (E.2.1.2.1 k) :: rest)) := by
  subst hv
  exact mx_get C hM cl_3 hk hf (by decide) qw_112 hdg kk
theorem gX3_53 {k : Nat} {fs : List (Nat × Nat)} {f : Nat × Nat} {v : Value} (C : mx_C E p m c cc nL s args RX3 meth ret) (hM : mx_H E s M H locs) (hk : E.1[k]? = some (.inl (3, fs))) (hf : fs[1]? = some f) (hv : mx_fv E.2.1 M k 1 f = v) (hdg : decode cc pc = .ok (.getfield 53, 3)) (kk : W p l e R s m args below meth c H locs cells slots Q (F0 m (pc + 3) ls (v :: rest))) : W p l e R s m args below meth c H locs cells slots Q (F0 m pc ls (.ref (E.2.1.2.1 k) :: rest)) := by
  subst hv
  exact mx_get C hM cl_3 hk hf (by decide) qw_119 hdg kk
theorem gX3_56 {k : Nat} {fs : List (Nat × Nat)} {f : Nat × Nat} {v : Value} (C : mx_C E p m c cc nL s args RX3 meth ret) (hM : mx_H E s M H locs) (hk : E.1[k]? = some (.inl (3, fs))) (hf : fs[14]? = some f) (hv : mx_fv E.2.1 M k 14 f = v) (hdg : decode cc pc = .ok (.getfield 56, 3)) (kk : W p l e R s m args below meth c H locs cells slots Q (F0 m (pc + 3) ls (v :: rest))) : W p l e R s m args below meth c H locs cells slots Q (F0 m pc ls (.ref (E.2.1.2.1 k) :: rest)) := by
  subst hv
  exact mx_get C hM cl_3 hk hf (by decide) qw_157 hdg kk
theorem gX3_65 {k : Nat} {fs : List (Nat × Nat)} {f : Nat × Nat} {v : Value} (C : mx_C E p m c cc nL s args RX3 meth ret) (hM : mx_H E s M H locs) (hk : E.1[k]? = some (.inl (3, fs))) (hf : fs[15]? = some f) (hv : mx_fv E.2.1 M k 15 f = v) (hdg : decode cc pc = .ok (.getfield 65, 3)) (kk : W p l e R s m args below meth c H locs cells slots Q (F0 m (pc + 3) ls (v :: rest))) : W p l e R s m args below meth c H locs cells slots Q (F0 m pc ls (.ref (E.2.1.2.1 k) :: rest)) := by
  subst hv
  exact mx_get C hM cl_3 hk hf (by decide) qw_158 hdg kk
theorem gX3_69 {k : Nat} {fs : List (Nat × Nat)} {f : Nat × Nat} {v : Value} (C : mx_C E p m c cc nL s args RX3 meth ret) (hM : mx_H E s M H locs) (hk : E.1[k]? = some (.inl (3, fs))) (hf : fs[16]? = some f) (hv : mx_fv E.2.1 M k 16 f = v) (hdg : decode cc pc = .ok (.getfield 69, 3)) (kk : W p l e R s m args below meth c H locs cells slots Q (F0 m (pc + 3) ls (v :: rest))) : W p l e R s m args below meth c H locs cells slots Q (F0 m pc ls (.ref (E.2.1.2.1 k) :: rest)) := by
  subst hv
  exact mx_get C hM cl_3 hk hf (by decide) qw_159 hdg kk
theorem gX3_72 {k : Nat} {fs : List (Nat × Nat)} {f : Nat × Nat} {v : Value} (C : mx_C E p m c cc nL s args RX3 meth ret) (hM : mx_H E s M H locs) (hk : E.1[k]? = some (.inl (3, fs))) (hf : fs[17]? = some f) (hv : mx_fv E.2.1 M k 17 f = v) (hdg : decode cc pc = .ok (.getfield 72, 3)) (kk : W p l e R s m args below meth c H locs cells slots Q (F0 m (pc + 3) ls (v :: rest))) : W p l e R s m args below meth c H locs cells slots Q (F0 m pc ls (.ref (E.2.1.2.1 k) :: rest)) := by
  subst hv
  exact mx_get C hM cl_3 hk hf (by decide) qw_160 hdg kk
theorem gX3_139 {k : Nat} {fs : List (Nat × Nat)} {f : Nat × Nat} {v : Value} (C : mx_C E p m c cc nL s args RX3 meth ret) (hT : xOK E) (hM : mx_H E s M H locs) (hk : E.1[k]? = some (.inl (7, fs))) (hf : fs[9]? = some f) (hv : mx_fv E.2.1 M k 9 f = v) (hdg : decode cc pc = .ok (.getfield 139, 3)) (kk : W p l e R s m args below meth c H locs cells slots Q (F0 m (pc + 3) ls (v :: rest))) : W p l e R s m args below meth c H locs cells slots Q (F0 m pc ls (.ref (E.2.1.2.1 k) :: rest)) := by
  subst hv
  exact mx_getN C hM cl_7 hk hf (by decide) (nw_73 hT C) hdg kk
theorem gX4_11 {k : Nat} {fs : List (Nat × Nat)} {f : Nat × Nat} {v : Value} (C : mx_C E p m c cc nL s args RX4 meth ret) (hM : mx_H E s M H locs) (hk : E.1[k]? = some (.inl (4, fs))) (hf : fs[0]? = some f) (hv : mx_fv E.2.1 M k 0 f = v) (hdg : decode cc pc = .ok (.getfield 11, 3)) (kk : W p l e R s m args below meth c H locs cells slots Q (F0 m (pc + 3) ls (v :: rest))) : W p l e R s m args below meth c H locs cells slots Q (F0 m pc ls (.ref (E.2.1.2.1 k) :: rest)) := by
  subst hv
  exact mx_get C hM cl_4 hk hf (by decide) qw_403 hdg kk
theorem gX4_15 {k : Nat} {fs : List (Nat × Nat)} {f : Nat × Nat} {v : Value} (C : mx_C E p m c cc nL s args RX4 meth ret) (hT : xOK E) (hM : mx_H E s M H locs) (hk : E.1[k]? = some (.inl (9, fs))) (hf : fs[0]? = some f) (hv : mx_fv E.2.1 M k 0 f = v) (hdg : decode cc pc = .ok (.getfield 15, 3)) (kk : W p l e R s m args below meth c H locs cells slots Q (F0 m (pc + 3) ls (v :: rest))) : W p l e R s m args below meth c H locs cells slots Q (F0 m pc ls (.ref (E.2.1.2.1 k) :: rest)) := by
  subst hv
  exact mx_getN C hM cl_9 hk hf (by decide) (nw_205 hT C) hdg kk
theorem gX4_28 {k : Nat} {fs : List (Nat × Nat)} {f : Nat × Nat} {v : Value} (C : mx_C E p m c cc nL s args RX4 meth ret) (hM : mx_H E s M H locs) (hk : E.1[k]? = some (.inl (4, fs))) (hf : fs[1]? = some f) (hv : mx_fv E.2.1 M k 1 f = v) (hdg : decode cc pc = .ok (.getfield 28, 3)) (kk : W p l e R s m args below meth c H locs cells slots Q (F0 m (pc + 3) ls (v :: rest))) : W p l e R s m args below meth c H locs cells slots Q (F0 m pc ls (.ref (E.2.1.2.1 k) :: rest)) := by
  subst hv
  exact mx_get C hM cl_4 hk hf (by decide) qw_405 hdg kk
theorem gX4_32 {k : Nat} {fs : List (Nat × Nat)} {f : Nat × Nat} {v : Value} (C : mx_C E p m c cc nL s args RX4 meth ret) (hT : xOK E) (hM : mx_H E s M H locs) (hk : E.1[k]? = some (.inl (3, fs))) (hf : fs[2]? = some f) (hv : mx_fv E.2.1 M k 2 f = v) (hdg : decode cc pc = .ok (.getfield 32, 3)) (kk : W p l e R s m args below meth c H locs cells slots Q (F0 m (pc + 3) ls (v :: rest))) : W p l e R s m args below meth c H locs cells slots Q (F0 m pc ls (.ref (E.2.1.2.1 k) :: rest)) := by
  subst hv
  exact mx_getN C hM cl_3 hk hf (by decide) (nw_124 hT C) hdg kk
theorem gX4_59 {k : Nat} {fs : List (Nat × Nat)} {f : Nat × Nat} {v : Value} (C : mx_C E p m c cc nL s args RX4 meth ret) (hT : xOK E) (hM : mx_H E s M H locs) (hk : E.1[k]? = some (.inl (3, fs))) (hf : fs[1]? = some f) (hv : mx_fv E.2.1 M k 1 f = v) (hdg : decode cc pc = .ok (.getfield 59, 3)) (kk : W p l e R s m args below meth c H locs cells slots Q (F0 m (pc + 3) ls (v :: rest))) : W p l e R s m args below meth c H locs cells slots Q (F0 m pc ls (.ref (E.2.1.2.1 k) :: rest)) := by
  subst hv
  exact mx_getN C hM cl_3 hk hf (by decide) (nw_118 hT C) hdg kk
theorem gX4_62 {k : Nat} {fs : List (Nat × Nat)} {f : Nat × Nat} {v : Value} (C : mx_C E p m c cc nL s args RX4 meth ret) (hT : xOK E) (hM : mx_H E s M H locs) (hk : E.1[k]? = some (.inl (3, fs))) (hf : fs[8]? = some f) (hv : mx_fv E.2.1 M k 8 f = v) (hdg : decode cc pc = .ok (.getfield 62, 3)) (kk : W p l e R s m args below meth c H locs cells slots Q (F0 m (pc + 3) ls (v :: rest))) : W p l e R s m args below meth c H locs cells slots Q (F0 m pc ls (.ref (E.2.1.2.1 k) :: rest)) := by
  subst hv
  exact mx_getN C hM cl_3 hk hf (by decide) (nw_139 hT C) hdg kk
theorem gX4_68 {k : Nat} {fs : List (Nat × Nat)} {f : Nat × Nat} {v : Value} (C : mx_C E p m c cc nL s args RX4 meth ret) (hT : xOK E) (hM : mx_H E s M H locs) (hk : E.1[k]? = some (.inl (3, fs))) (hf : fs[6]? = some f) (hv : mx_fv E.2.1 M k 6 f = v) (hdg : decode cc pc = .ok (.getfield 68, 3)) (kk : W p l e R s m args below meth c H locs cells slots Q (F0 m (pc + 3) ls (v :: rest))) : W p l e R s m args below meth c H locs cells slots Q (F0 m pc ls (.ref (E.2.1.2.1 k) :: rest)) := by
  subst hv
  exact mx_getN C hM cl_3 hk hf (by decide) (nw_133 hT C) hdg kk
theorem gX5_11 {k : Nat} {fs : List (Nat × Nat)} {f : Nat × Nat} {v : Value} (C : mx_C E p m c cc nL s args RX5 meth ret) (hM : mx_H E s M H locs) (hk : E.1[k]? = some (.inl (5, fs))) (hf : fs[0]? = some f) (hv : mx_fv E.2.1 M k 0 f = v) (hdg : decode cc pc = .ok (.getfield 11, 3)) (kk : W p l e R s m args below meth c H locs cells slots Q (F0 m (pc + 3) ls (v :: rest))) : W p l e R s m args below meth c H locs cells slots Q (F0 m pc ls (.ref (E.2.1.2.1 k) :: rest)) := by
  subst hv
  exact mx_get C hM cl_5 hk hf (by decide) qw_269 hdg kk
theorem gX5_18 {k : Nat} {fs : List (Nat × Nat)} {f : Nat × Nat} {v : Value} (C : mx_C E p m c cc nL s args RX5 meth ret) (hM : mx_H E s M H locs) (hk : E.1[k]? = some (.inl (5, fs))) (hf : fs[1]? = some f) (hv : mx_fv E.2.1 M k 1 f = v) (hdg : decode cc pc = .ok (.getfield 18, 3)) (kk : W p l e R s m args below meth c H locs cells slots Q (F0 m (pc + 3) ls (v :: rest))) : W p l e R s m args below meth c H locs cells slots Q (F0 m pc ls (.ref (E.2.1.2.1 k) :: rest)) := by
  subst hv
  exact mx_get C hM cl_5 hk hf (by decide) qw_270 hdg kk
theorem gX6_9 {k : Nat} {fs : List (Nat × Nat)} {f : Nat × Nat} {v : Value} (C : mx_C E p m c cc nL s args RX6 meth ret) (hM : mx_H E s M H locs) (hk : E.1[k]? = some (.inl (6, fs))) (hf : fs[0]? = some f) (hv : mx_fv E.2.1 M k 0 f = v) (hdg : decode cc pc = .ok (.getfield 9, 3)) (kk : W p l e R s m args below meth c H locs cells slots Q (F0 m (pc + 3) ls (v :: rest))) : W p l e R s m args below meth c H locs cells slots Q (F0 m pc ls (.ref (E.2.1.2.1 k) :: rest)) := by
  subst hv
  exact mx_get C hM cl_6 hk hf (by decide) qw_350 hdg kk
theorem gX6_15 {k : Nat} {fs : List (Nat × Nat)} {f : Nat × Nat} {v : Value} (C : mx_C E p m c cc nL s args RX6 meth ret) (hM : mx_H E s M H locs) (hk : E.1[k]? = some (.inl (6, fs))) (hf : fs[2]? = some f) (hv : mx_fv E.2.1 M k 2 f = v) (hdg : decode cc pc = .ok (.getfield 15, 3)) (kk : W p l e R s m args below meth c H locs cells slots Q (F0 m (pc + 3) ls (v :: rest))) : W p l e R s m args below meth c H locs cells slots Q (F0 m pc ls (.ref (E.2.1.2.1 k) :: rest)) := by
  subst hv
  exact mx_get C hM cl_6 hk hf (by decide) qw_354 hdg kk
theorem gX6_18 {k : Nat} {fs : List (Nat × Nat)} {f : Nat × Nat} {v : Value} (C : mx_C E p m c cc nL s args RX6 meth ret) (hM : mx_H E s M H locs) (hk : E.1[k]? = some (.inl (6, fs))) (hf : fs[3]? = some f) (hv : mx_fv E.2.1 M k 3 f = v) (hdg : decode cc pc = .ok (.getfield 18, 3)) (kk : W p l e R s m args below meth c H locs cells slots Q (F0 m (pc + 3) ls (v :: rest))) : W p l e R s m args below meth c H locs cells slots Q (F0 m pc ls (.ref (E.2.1.2.1 k) :: rest)) := by
  subst hv
  exact mx_get C hM cl_6 hk hf (by decide) qw_356 hdg kk
theorem gX6_22 {k : Nat} {fs : List (Nat × Nat)} {f : Nat × Nat} {v : Value} (C : mx_C E p m c cc nL s args RX6 meth ret) (hM : mx_H E s M H locs) (hk : E.1[k]? = some (.inl (6, fs))) (hf : fs[4]? = some f) (hv : mx_fv E.2.1 M k 4 f = v) (hdg : decode cc pc = .ok (.getfield 22, 3)) (kk : W p l e R s m args below meth c H locs cells slots Q (F0 m (pc + 3) ls (v :: rest))) : W p l e R s m args below meth c H locs cells slots Q (F0 m pc ls (.ref (E.2.1.2.1 k) :: rest)) := by
  subst hv
  exact mx_get C hM cl_6 hk hf (by decide) qw_358 hdg kk
theorem gX6_25 {k : Nat} {fs : List (Nat × Nat)} {f : Nat × Nat} {v : Value} (C : mx_C E p m c cc nL s args RX6 meth ret) (hM : mx_H E s M H locs) (hk : E.1[k]? = some (.inl (6, fs))) (hf : fs[5]? = some f) (hv : mx_fv E.2.1 M k 5 f = v) (hdg : decode cc pc = .ok (.getfield 25, 3)) (kk : W p l e R s m args below meth c H locs cells slots Q (F0 m (pc + 3) ls (v :: rest))) : W p l e R s m args below meth c H locs cells slots Q (F0 m pc ls (.ref (E.2.1.2.1 k) :: rest)) := by
  subst hv
  exact mx_get C hM cl_6 hk hf (by decide) qw_359 hdg kk
theorem gX6_28 {k : Nat} {fs : List (Nat × Nat)} {f : Nat × Nat} {v : Value} (C : mx_C E p m c cc nL s args RX6 meth ret) (hM : mx_H E s M H locs) (hk : E.1[k]? = some (.inl (6, fs))) (hf : fs[6]? = some f) (hv : mx_fv E.2.1 M k 6 f = v) (hdg : decode cc pc = .ok (.getfield 28, 3)) (kk : W p l e R s m args below meth c H locs cells slots Q (F0 m (pc + 3) ls (v :: rest))) : W p l e R s m args below meth c H locs cells slots Q (F0 m pc ls (.ref (E.2.1.2.1 k) :: rest)) := by
  subst hv
  exact mx_get C hM cl_6 hk hf (by decide) qw_360 hdg kk
theorem gX6_35 {k : Nat} {fs : List (Nat × Nat)} {f : Nat × Nat} {v : Value} (C : mx_C E p m c cc nL s args RX6 meth ret) (hT : xOK E) (hM : mx_H E s M H locs) (hk : E.1[k]? = some (.inl (9, fs))) (hf : fs[0]? = some f) (hv : mx_fv E.2.1 M k 0 f = v) (hdg : decode cc pc = .ok (.getfield 35, 3)) (kk : W p l e R s m args below meth c H locs cells slots Q (F0 m (pc + 3) ls (v :: rest))) : W p l e R s m args below meth c H locs cells slots Q (F0 m pc ls (.ref (E.2.1.2.1 k) :: rest)) := by
  subst hv
  exact mx_getN C hM cl_9 hk hf (by decide) (nw_206 hT C) hdg kk
theorem gX6_41 {k : Nat} {fs : List (Nat × Nat)} {f : Nat × Nat} {v : Value} (C : mx_C E p m c cc nL s args RX6 meth ret) (hT : xOK E) (hM : mx_H E s M H locs) (hk : E.1[k]? = some (.inl (3, fs))) (hf : fs[0]? = some f) (hv : mx_fv E.2.1 M k 0 f = v) (hdg : decode cc pc = .ok (.getfield 41, 3)) (kk : W p l e R s m args below meth c H locs cells slots Q (F0 m (pc + 3) ls (v :: rest))) : W p l e R s m args below meth c H locs cells slots Q (F0 m pc ls (.ref (E.2.1.2.1 k) :: rest)) := by
  subst hv
  exact mx_getN C hM cl_3 hk hf (by decide) (nw_114 hT C) hdg kk
theorem gX6_54 {k : Nat} {fs : List (Nat × Nat)} {f : Nat × Nat} {v : Value} (C : mx_C E p m c cc nL s args RX6 meth ret) (hT : xOK E) (hM : mx_H E s M H locs) (hk : E.1[k]? = some (.inl (3, fs))) (hf : fs[1]? = some f) (hv : mx_fv E.2.1 M k 1 f = v) (hdg : decode cc pc = .ok (.getfield 54, 3)) (kk : W p l e R s m args below meth c H locs cells slots Q (F0 m (pc + 3) ls (v :: rest))) : W p l e R s m args below meth c H locs cells slots Q (F0 m pc ls (.ref (E.2.1.2.1 k) :: rest)) := by
  subst hv
  exact mx_getN C hM cl_3 hk hf (by decide) (nw_120 hT C) hdg kk
theorem gX6_61 {k : Nat} {fs : List (Nat × Nat)} {f : Nat × Nat} {v : Value} (C : mx_C E p m c cc nL s args RX6 meth ret) (hT : xOK E) (hM : mx_H E s M H locs) (hk : E.1[k]? = some (.inl (3, fs))) (hf : fs[8]? = some f) (hv : mx_fv E.2.1 M k 8 f = v) (hdg : decode cc pc = .ok (.getfield 61, 3)) (kk : W p l e R s m args below meth c H locs cells slots Q (F0 m (pc + 3) ls (v :: rest))) : W p l e R s m args below meth c H locs cells slots Q (F0 m pc ls (.ref (E.2.1.2.1 k) :: rest)) := by
  subst hv
  exact mx_getN C hM cl_3 hk hf (by decide) (nw_140 hT C) hdg kk
theorem gX6_78 {k : Nat} {fs : List (Nat × Nat)} {f : Nat × Nat} {v : Value} (C : mx_C E p m c cc nL s args RX6 meth ret) (hM : mx_H E s M H locs) (hk : E.1[k]? = some (.inl (6, fs))) (hf : fs[1]? = some f) (hv : mx_fv E.2.1 M k 1 f = v) (hdg : decode cc pc = .ok (.getfield 78, 3)) (kk : W p l e R s m args below meth c H locs cells slots Q (F0 m (pc + 3) ls (v :: rest))) : W p l e R s m args below meth c H locs cells slots Q (F0 m pc ls (.ref (E.2.1.2.1 k) :: rest)) := by
  subst hv
  exact mx_get C hM cl_6 hk hf (by decide) qw_352 hdg kk
theorem gX6_84 {k : Nat} {fs : List (Nat × Nat)} {f : Nat × Nat} {v : Value} (C : mx_C E p m c cc nL s args RX6 meth ret) (hT : xOK E) (hM : mx_H E s M H locs) (hk : E.1[k]? = some (.inl (9, fs))) (hf : fs[5]? = some f) (hv : mx_fv E.2.1 M k 5 f = v) (hdg : decode cc pc = .ok (.getfield 84, 3)) (kk : W p l e R s m args below meth c H locs cells slots Q (F0 m (pc + 3) ls (v :: rest))) : W p l e R s m args below meth c H locs cells slots Q (F0 m pc ls (.ref (E.2.1.2.1 k) :: rest)) := by
  subst hv
  exact mx_getN C hM cl_9 hk hf (by decide) (nw_220 hT C) hdg kk
theorem gX6_113 {k : Nat} {fs : List (Nat × Nat)} {f : Nat × Nat} {v : Value} (C : mx_C E p m c cc nL s args RX6 meth ret) (hT : xOK E) (hM : mx_H E s M H locs) (hk : E.1[k]? = some (.inl (9, fs))) (hf : fs[4]? = some f) (hv : mx_fv E.2.1 M k 4 f = v) (hdg : decode cc pc = .ok (.getfield 113, 3)) (kk : W p l e R s m args below meth c H locs cells slots Q (F0 m (pc + 3) ls (v :: rest))) : W p l e R s m args below meth c H locs cells slots Q (F0 m pc ls (.ref (E.2.1.2.1 k) :: rest)) := by
  subst hv
  exact mx_getN C hM cl_9 hk hf (by decide) (nw_217 hT C) hdg kk
theorem gX7_13 {k : Nat} {fs : List (Nat × Nat)} {f : Nat × Nat} {v : Value} (C : mx_C E p m c cc nL s args RX7 meth ret) (hM : mx_H E s M H locs) (hk : E.1[k]? = some (.inl (7, fs))) (hf : fs[1]? = some f) (hv : mx_fv E.2.1 M k 1 f = v) (hdg : decode cc pc = .ok (.getfield 13, 3)) (kk : W p l e R s m args below meth c H locs cells slots Q (F0 m (pc + 3) ls (v :: rest))) : W p l e R s m args below meth c H locs cells slots Q (F0 m pc ls (.ref (E.2.1.2.1 k) :: rest)) := by
  subst hv
  exact mx_get C hM cl_7 hk hf (by decide) qw_63 hdg kk
theorem gX7_17 {k : Nat} {fs : List (Nat × Nat)} {f : Nat × Nat} {v : Value} (C : mx_C E p m c cc nL s args RX7 meth ret) (hM : mx_H E s M H locs) (hk : E.1[k]? = some (.inl (7, fs))) (hf : fs[2]? = some f) (hv : mx_fv E.2.1 M k 2 f = v) (hdg : decode cc pc = .ok (.getfield 17, 3)) (kk : W p l e R s m args below meth c H locs cells slots Q (F0 m (pc + 3) ls (v :: rest))) : W p l e R s m args below meth c H locs cells slots Q (F0 m pc ls (.ref (E.2.1.2.1 k) :: rest)) := by
  subst hv
  exact mx_get C hM cl_7 hk hf (by decide) qw_64 hdg kk
theorem gX7_20 {k : Nat} {fs : List (Nat × Nat)} {f : Nat × Nat} {v : Value} (C : mx_C E p m c cc nL s args RX7 meth ret) (hM : mx_H E s M H locs) (hk : E.1[k]? = some (.inl (7, fs))) (hf : fs[3]? = some f) (hv : mx_fv E.2.1 M k 3 f = v) (hdg : decode cc pc = .ok (.getfield 20, 3)) (kk : W p l e R s m args below meth c H locs cells slots Q (F0 m (pc + 3) ls (v :: rest))) : W p l e R s m args below meth c H locs cells slots Q (F0 m pc ls (.ref (E.2.1.2.1 k) :: rest)) := by
  subst hv
  exact mx_get C hM cl_7 hk hf (by decide) qw_65 hdg kk
theorem gX7_23 {k : Nat} {fs : List (Nat × Nat)} {f : Nat × Nat} {v : Value} (C : mx_C E p m c cc nL s args RX7 meth ret) (hM : mx_H E s M H locs) (hk : E.1[k]? = some (.inl (7, fs))) (hf : fs[4]? = some f) (hv : mx_fv E.2.1 M k 4 f = v) (hdg : decode cc pc = .ok (.getfield 23, 3)) (kk : W p l e R s m args below meth c H locs cells slots Q (F0 m (pc + 3) ls (v :: rest))) : W p l e R s m args below meth c H locs cells slots Q (F0 m pc ls (.ref (E.2.1.2.1 k) :: rest)) := by
  subst hv
  exact mx_get C hM cl_7 hk hf (by decide) qw_66 hdg kk
theorem gX7_29 {k : Nat} {fs : List (Nat × Nat)} {f : Nat × Nat} {v : Value} (C : mx_C E p m c cc nL s args RX7 meth ret) (hM : mx_H E s M H locs) (hk : E.1[k]? = some (.inl (7, fs))) (hf : fs[5]? = some f) (hv : mx_fv E.2.1 M k 5 f = v) (hdg : decode cc pc = .ok (.getfield 29, 3)) (kk : W p l e R s m args below meth c H locs cells slots Q (F0 m (pc + 3) ls (v :: rest))) : W p l e R s m args below meth c H locs cells slots Q (F0 m pc ls (.ref (E.2.1.2.1 k) :: rest)) := by
  subst hv
  exact mx_get C hM cl_7 hk hf (by decide) qw_67 hdg kk
theorem gX7_33 {k : Nat} {fs : List (Nat × Nat)} {f : Nat × Nat} {v : Value} (C : mx_C E p m c cc nL s args RX7 meth ret) (hM : mx_H E s M H locs) (hk : E.1[k]? = some (.inl (7, fs))) (hf : fs[0]? = some f) (hv : mx_fv E.2.1 M k 0 f = v) (hdg : decode cc pc = .ok (.getfield 33, 3)) (kk : W p l e R s m args below meth c H locs cells slots Q (F0 m (pc + 3) ls (v :: rest))) : W p l e R s m args below meth c H locs cells slots Q (F0 m pc ls (.ref (E.2.1.2.1 k) :: rest)) := by
  subst hv
  exact mx_get C hM cl_7 hk hf (by decide) qw_62 hdg kk
theorem gX7_41 {k : Nat} {fs : List (Nat × Nat)} {f : Nat × Nat} {v : Value} (C : mx_C E p m c cc nL s args RX7 meth ret) (hM : mx_H E s M H locs) (hk : E.1[k]? = some (.inl (7, fs))) (hf : fs[8]? = some f) (hv : mx_fv E.2.1 M k 8 f = v) (hdg : decode cc pc = .ok (.getfield 41, 3)) (kk : W p l e R s m args below meth c H locs cells slots Q (F0 m (pc + 3) ls (v :: rest))) : W p l e R s m args below meth c H locs cells slots Q (F0 m pc ls (.ref (E.2.1.2.1 k) :: rest)) := by
  subst hv
  exact mx_get C hM cl_7 hk hf (by decide) qw_70 hdg kk
theorem gX7_45 {k : Nat} {fs : List (Nat × Nat)} {f : Nat × Nat} {v : Value} (C : mx_C E p m c cc nL s args RX7 meth ret) (hM : mx_H E s M H locs) (hk : E.1[k]? = some (.inl (7, fs))) (hf : fs[7]? = some f) (hv : mx_fv E.2.1 M k 7 f = v) (hdg : decode cc pc = .ok (.getfield 45, 3)) (kk : W p l e R s m args below meth c H locs cells slots Q (F0 m (pc + 3) ls (v :: rest))) : W p l e R s m args below meth c H locs cells slots Q (F0 m pc ls (.ref (E.2.1.2.1 k) :: rest)) := by
  subst hv
  exact mx_get C hM cl_7 hk hf (by decide) qw_69 hdg kk
theorem gX7_48 {k : Nat} {fs : List (Nat × Nat)} {f : Nat × Nat} {v : Value} (C : mx_C E p m c cc nL s args RX7 meth ret) (hM : mx_H E s M H locs) (hk : E.1[k]? = some (.inl (7, fs))) (hf : fs[6]? = some f) (hv : mx_fv E.2.1 M k 6 f = v) (hdg : decode cc pc = .ok (.getfield 48, 3)) (kk : W p l e R s m args below meth c H locs cells slots Q (F0 m (pc + 3) ls (v :: rest))) : W p l e R s m args below meth c H locs cells slots Q (F0 m pc ls (.ref (E.2.1.2.1 k) :: rest)) := by
  subst hv
  exact mx_get C hM cl_7 hk hf (by decide) qw_68 hdg kk
theorem gX7_61 {k : Nat} {fs : List (Nat × Nat)} {f : Nat × Nat} {v : Value} (C : mx_C E p m c cc nL s args RX7 meth ret) (hT : xOK E) (hM : mx_H E s M H locs) (hk : E.1[k]? = some (.inl (10, fs))) (hf : fs[1]? = some f) (hv : mx_fv E.2.1 M k 1 f = v) (hdg : decode cc pc = .ok (.getfield 61, 3)) (kk : W p l e R s m args below meth c H locs cells slots Q (F0 m (pc + 3) ls (v :: rest))) : W p l e R s m args below meth c H locs cells slots Q (F0 m pc ls (.ref (E.2.1.2.1 k) :: rest)) := by
  subst hv
  exact mx_getN C hM cl_10 hk hf (by decide) (nw_45 hT C) hdg kk
theorem gX8_13 {k : Nat} {fs : List (Nat × Nat)} {f : Nat × Nat} {v : Value} (C : mx_C E p m c cc nL s args RX8 meth ret) (hM : mx_H E s M H locs) (hk : E.1[k]? = some (.inl (8, fs))) (hf : fs[0]? = some f) (hv : mx_fv E.2.1 M k 0 f = v) (hdg : decode cc pc = .ok (.getfield 13, 3)) (kk : W p l e R s m args below meth c H locs cells slots Q (F0 m (pc + 3) ls (v :: rest))) : W p l e R s m args below meth c H locs cells slots Q (F0 m pc ls (.ref (E.2.1.2.1 k) :: rest)) := by
  subst hv
  exact mx_get C hM cl_8 hk hf (by decide) qw_285 hdg kk
theorem gX8_17 {k : Nat} {fs : List (Nat × Nat)} {f : Nat × Nat} {v : Value} (C : mx_C E p m c cc nL s args RX8 meth ret) (hM : mx_H E s M H locs) (hk : E.1[k]? = some (.inl (8, fs))) (hf : fs[1]? = some f) (hv : mx_fv E.2.1 M k 1 f = v) (hdg : decode cc pc = .ok (.getfield 17, 3)) (kk : W p l e R s m args below meth c H locs cells slots Q (F0 m (pc + 3) ls (v :: rest))) : W p l e R s m args below meth c H locs cells slots Q (F0 m pc ls (.ref (E.2.1.2.1 k) :: rest)) := by
  subst hv
  exact mx_get C hM cl_8 hk hf (by decide) qw_286 hdg kk
theorem gX8_21 {k : Nat} {fs : List (Nat × Nat)} {f : Nat × Nat} {v : Value} (C : mx_C E p m c cc nL s args RX8 meth ret) (hM : mx_H E s M H locs) (hk : E.1[k]? = some (.inl (8, fs))) (hf : fs[2]? = some f) (hv : mx_fv E.2.1 M k 2 f = v) (hdg : decode cc pc = .ok (.getfield 21, 3)) (kk : W p l e R s m args below meth c H locs cells slots Q (F0 m (pc + 3) ls (v :: rest))) : W p l e R s m args below meth c H locs cells slots Q (F0 m pc ls (.ref (E.2.1.2.1 k) :: rest)) := by
  subst hv
  exact mx_get C hM cl_8 hk hf (by decide) qw_287 hdg kk
theorem gX8_28 {k : Nat} {fs : List (Nat × Nat)} {f : Nat × Nat} {v : Value} (C : mx_C E p m c cc nL s args RX8 meth ret) (hM : mx_H E s M H locs) (hk : E.1[k]? = some (.inl (8, fs))) (hf : fs[3]? = some f) (hv : mx_fv E.2.1 M k 3 f = v) (hdg : decode cc pc = .ok (.getfield 28, 3)) (kk : W p l e R s m args below meth c H locs cells slots Q (F0 m (pc + 3) ls (v :: rest))) : W p l e R s m args below meth c H locs cells slots Q (F0 m pc ls (.ref (E.2.1.2.1 k) :: rest)) := by
  subst hv
  exact mx_get C hM cl_8 hk hf (by decide) qw_288 hdg kk
theorem gX8_32 {k : Nat} {fs : List (Nat × Nat)} {f : Nat × Nat} {v : Value} (C : mx_C E p m c cc nL s args RX8 meth ret) (hM : mx_H E s M H locs) (hk : E.1[k]? = some (.inl (8, fs))) (hf : fs[4]? = some f) (hv : mx_fv E.2.1 M k 4 f = v) (hdg : decode cc pc = .ok (.getfield 32, 3)) (kk : W p l e R s m args below meth c H locs cells slots Q (F0 m (pc + 3) ls (v :: rest))) : W p l e R s m args below meth c H locs cells slots Q (F0 m pc ls (.ref (E.2.1.2.1 k) :: rest)) := by
  subst hv
  exact mx_get C hM cl_8 hk hf (by decide) qw_289 hdg kk
theorem gX8_135 {k : Nat} {fs : List (Nat × Nat)} {f : Nat × Nat} {v : Value} (C : mx_C E p m c cc nL s args RX8 meth ret) (hT : xOK E) (hM : mx_H E s M H locs) (hk : E.1[k]? = some (.inl (7, fs))) (hf : fs[9]? = some f) (hv : mx_fv E.2.1 M k 9 f = v) (hdg : decode cc pc = .ok (.getfield 135, 3)) (kk : W p l e R s m args below meth c H locs cells slots Q (F0 m (pc + 3) ls (v :: rest))) : W p l e R s m args below meth c H locs cells slots Q (F0 m pc ls (.ref (E.2.1.2.1 k) :: rest)) := by
  subst hv
  exact mx_getN C hM cl_7 hk hf (by decide) (nw_72 hT C) hdg kk
theorem gX8_152 {k : Nat} {fs : List (Nat × Nat)} {f : Nat × Nat} {v : Value} (C : mx_C E p m c cc nL s args RX8 meth ret) (hT : xOK E) (hM : mx_H E s M H locs) (hk : E.1[k]? = some (.inl (9, fs))) (hf : fs[0]? = some f) (hv : mx_fv E.2.1 M k 0 f = v) (hdg : decode cc pc = .ok (.getfield 152, 3)) (kk : W p l e R s m args below meth c H locs cells slots Q (F0 m (pc + 3) ls (v :: rest))) : W p l e R s m args below meth c H locs cells slots Q (F0 m pc ls (.ref (E.2.1.2.1 k) :: rest)) := by
  subst hv
  exact mx_getN C hM cl_9 hk hf (by decide) (nw_207 hT C) hdg kk
theorem gX8_176 {k : Nat} {fs : List (Nat × Nat)} {f : Nat × Nat} {v : Value} (C : mx_C E p m c cc nL s args RX8 meth ret) (hT : xOK E) (hM : mx_H E s M H locs) (hk : E.1[k]? = some (.inl (9, fs))) (hf : fs[3]? = some f) (hv : mx_fv E.2.1 M k 3 f = v) (hdg : decode cc pc = .ok (.getfield 176, 3)) (kk : W p l e R s m args below meth c H locs cells slots Q (F0 m (pc + 3) ls (v :: rest))) : W p l e R s m args below meth c H locs cells slots Q (F0 m pc ls (.ref (E.2.1.2.1 k) :: rest)) := by
  subst hv
  exact mx_getN C hM cl_9 hk hf (by decide) (nw_214 hT C) hdg kk
theorem gX8_179 {k : Nat} {fs : List (Nat × Nat)} {f : Nat × Nat} {v : Value} (C : mx_C E p m c cc nL s args RX8 meth ret) (hT : xOK E) (hM : mx_H E s M H locs) (hk : E.1[k]? = some (.inl (3, fs))) (hf : fs[5]? = some f) (hv : mx_fv E.2.1 M k 5 f = v) (hdg : decode cc pc = .ok (.getfield 179, 3)) (kk : W p l e R s m args below meth c H locs cells slots Q (F0 m (pc + 3) ls (v :: rest))) : W p l e R s m args below meth c H locs cells slots Q (F0 m pc ls (.ref (E.2.1.2.1 k) :: rest)) := by
  subst hv
  exact mx_getN C hM cl_3 hk hf (by decide) (nw_131 hT C) hdg kk
theorem gX9_9 {k : Nat} {fs : List (Nat × Nat)} {f : Nat × Nat} {v : Value} (C : mx_C E p m c cc nL s args RX9 meth ret) (hM : mx_H E s M H locs) (hk : E.1[k]? = some (.inl (9, fs))) (hf : fs[1]? = some f) (hv : mx_fv E.2.1 M k 1 f = v) (hdg : decode cc pc = .ok (.getfield 9, 3)) (kk : W p l e R s m args below meth c H locs cells slots Q (F0 m (pc + 3) ls (v :: rest))) : W p l e R s m args below meth c H locs cells slots Q (F0 m pc ls (.ref (E.2.1.2.1 k) :: rest)) := by
  subst hv
  exact mx_get C hM cl_9 hk hf (by decide) qw_208 hdg kk
theorem gX9_15 {k : Nat} {fs : List (Nat × Nat)} {f : Nat × Nat} {v : Value} (C : mx_C E p m c cc nL s args RX9 meth ret) (hM : mx_H E s M H locs) (hk : E.1[k]? = some (.inl (9, fs))) (hf : fs[2]? = some f) (hv : mx_fv E.2.1 M k 2 f = v) (hdg : decode cc pc = .ok (.getfield 15, 3)) (kk : W p l e R s m args below meth c H locs cells slots Q (F0 m (pc + 3) ls (v :: rest))) : W p l e R s m args below meth c H locs cells slots Q (F0 m pc ls (.ref (E.2.1.2.1 k) :: rest)) := by
  subst hv
  exact mx_get C hM cl_9 hk hf (by decide) qw_210 hdg kk
theorem gX9_18 {k : Nat} {fs : List (Nat × Nat)} {f : Nat × Nat} {v : Value} (C : mx_C E p m c cc nL s args RX9 meth ret) (hM : mx_H E s M H locs) (hk : E.1[k]? = some (.inl (9, fs))) (hf : fs[3]? = some f) (hv : mx_fv E.2.1 M k 3 f = v) (hdg : decode cc pc = .ok (.getfield 18, 3)) (kk : W p l e R s m args below meth c H locs cells slots Q (F0 m (pc + 3) ls (v :: rest))) : W p l e R s m args below meth c H locs cells slots Q (F0 m pc ls (.ref (E.2.1.2.1 k) :: rest)) := by
  subst hv
  exact mx_get C hM cl_9 hk hf (by decide) qw_212 hdg kk
theorem gX9_21 {k : Nat} {fs : List (Nat × Nat)} {f : Nat × Nat} {v : Value} (C : mx_C E p m c cc nL s args RX9 meth ret) (hM : mx_H E s M H locs) (hk : E.1[k]? = some (.inl (9, fs))) (hf : fs[4]? = some f) (hv : mx_fv E.2.1 M k 4 f = v) (hdg : decode cc pc = .ok (.getfield 21, 3)) (kk : W p l e R s m args below meth c H locs cells slots Q (F0 m (pc + 3) ls (v :: rest))) : W p l e R s m args below meth c H locs cells slots Q (F0 m pc ls (.ref (E.2.1.2.1 k) :: rest)) := by
  subst hv
  exact mx_get C hM cl_9 hk hf (by decide) qw_215 hdg kk
theorem gX9_24 {k : Nat} {fs : List (Nat × Nat)} {f : Nat × Nat} {v : Value} (C : mx_C E p m c cc nL s args RX9 meth ret) (hM : mx_H E s M H locs) (hk : E.1[k]? = some (.inl (9, fs))) (hf : fs[5]? = some f) (hv : mx_fv E.2.1 M k 5 f = v) (hdg : decode cc pc = .ok (.getfield 24, 3)) (kk : W p l e R s m args below meth c H locs cells slots Q (F0 m (pc + 3) ls (v :: rest))) : W p l e R s m args below meth c H locs cells slots Q (F0 m pc ls (.ref (E.2.1.2.1 k) :: rest)) := by
  subst hv
  exact mx_get C hM cl_9 hk hf (by decide) qw_218 hdg kk
theorem gX9_27 {k : Nat} {fs : List (Nat × Nat)} {f : Nat × Nat} {v : Value} (C : mx_C E p m c cc nL s args RX9 meth ret) (hM : mx_H E s M H locs) (hk : E.1[k]? = some (.inl (9, fs))) (hf : fs[6]? = some f) (hv : mx_fv E.2.1 M k 6 f = v) (hdg : decode cc pc = .ok (.getfield 27, 3)) (kk : W p l e R s m args below meth c H locs cells slots Q (F0 m (pc + 3) ls (v :: rest))) : W p l e R s m args below meth c H locs cells slots Q (F0 m pc ls (.ref (E.2.1.2.1 k) :: rest)) := by
  subst hv
  exact mx_get C hM cl_9 hk hf (by decide) qw_221 hdg kk
theorem gX9_30 {k : Nat} {fs : List (Nat × Nat)} {f : Nat × Nat} {v : Value} (C : mx_C E p m c cc nL s args RX9 meth ret) (hM : mx_H E s M H locs) (hk : E.1[k]? = some (.inl (9, fs))) (hf : fs[7]? = some f) (hv : mx_fv E.2.1 M k 7 f = v) (hdg : decode cc pc = .ok (.getfield 30, 3)) (kk : W p l e R s m args below meth c H locs cells slots Q (F0 m (pc + 3) ls (v :: rest))) : W p l e R s m args below meth c H locs cells slots Q (F0 m pc ls (.ref (E.2.1.2.1 k) :: rest)) := by
  subst hv
  exact mx_get C hM cl_9 hk hf (by decide) qw_222 hdg kk
theorem gX9_33 {k : Nat} {fs : List (Nat × Nat)} {f : Nat × Nat} {v : Value} (C : mx_C E p m c cc nL s args RX9 meth ret) (hM : mx_H E s M H locs) (hk : E.1[k]? = some (.inl (9, fs))) (hf : fs[8]? = some f) (hv : mx_fv E.2.1 M k 8 f = v) (hdg : decode cc pc = .ok (.getfield 33, 3)) (kk : W p l e R s m args below meth c H locs cells slots Q (F0 m (pc + 3) ls (v :: rest))) : W p l e R s m args below meth c H locs cells slots Q (F0 m pc ls (.ref (E.2.1.2.1 k) :: rest)) := by
  subst hv
  exact mx_get C hM cl_9 hk hf (by decide) qw_223 hdg kk
theorem gX9_36 {k : Nat} {fs : List (Nat × Nat)} {f : Nat × Nat} {v : Value} (C : mx_C E p m c cc nL s args RX9 meth ret) (hM : mx_H E s M H locs) (hk : E.1[k]? = some (.inl (9, fs))) (hf : fs[0]? = some f) (hv : mx_fv E.2.1 M k 0 f = v) (hdg : decode cc pc = .ok (.getfield 36, 3)) (kk : W p l e R s m args below meth c H locs cells slots Q (F0 m (pc + 3) ls (v :: rest))) : W p l e R s m args below meth c H locs cells slots Q (F0 m pc ls (.ref (E.2.1.2.1 k) :: rest)) := by
  subst hv
  exact mx_get C hM cl_9 hk hf (by decide) qw_204 hdg kk
theorem gX9_40 {k : Nat} {fs : List (Nat × Nat)} {f : Nat × Nat} {v : Value} (C : mx_C E p m c cc nL s args RX9 meth ret) (hT : xOK E) (hM : mx_H E s M H locs) (hk : E.1[k]? = some (.inl (3, fs))) (hf : fs[0]? = some f) (hv : mx_fv E.2.1 M k 0 f = v) (hdg : decode cc pc = .ok (.getfield 40, 3)) (kk : W p l e R s m args below meth c H locs cells slots Q (F0 m (pc + 3) ls (v :: rest))) : W p l e R s m args below meth c H locs cells slots Q (F0 m pc ls (.ref (E.2.1.2.1 k) :: rest)) := by
  subst hv
  exact mx_getN C hM cl_3 hk hf (by decide) (nw_113 hT C) hdg kk
theorem gX9_46 {k : Nat} {fs : List (Nat × Nat)} {f : Nat × Nat} {v : Value} (C : mx_C E p m c cc nL s args RX9 meth ret) (hT : xOK E) (hM : mx_H E s M H locs) (hk : E.1[k]? = some (.inl (3, fs))) (hf : fs[3]? = some f) (hv : mx_fv E.2.1 M k 3 f = v) (hdg : decode cc pc = .ok (.getfield 46, 3)) (kk : W p l e R s m args below meth c H locs cells slots Q (F0 m (pc + 3) ls (v :: rest))) : W p l e R s m args below meth c H locs cells slots Q (F0 m pc ls (.ref (E.2.1.2.1 k) :: rest)) := by
  subst hv
  exact mx_getN C hM cl_3 hk hf (by decide) (nw_126 hT C) hdg kk
theorem gX9_49 {k : Nat} {fs : List (Nat × Nat)} {f : Nat × Nat} {v : Value} (C : mx_C E p m c cc nL s args RX9 meth ret) (hT : xOK E) (hM : mx_H E s M H locs) (hk : E.1[k]? = some (.inl (3, fs))) (hf : fs[4]? = some f) (hv : mx_fv E.2.1 M k 4 f = v) (hdg : decode cc pc = .ok (.getfield 49, 3)) (kk : W p l e R s m args below meth c H locs cells slots Q (F0 m (pc + 3) ls (v :: rest))) : W p l e R s m args below meth c H locs cells slots Q (F0 m pc ls (.ref (E.2.1.2.1 k) :: rest)) := by
  subst hv
  exact mx_getN C hM cl_3 hk hf (by decide) (nw_128 hT C) hdg kk
theorem gX9_52 {k : Nat} {fs : List (Nat × Nat)} {f : Nat × Nat} {v : Value} (C : mx_C E p m c cc nL s args RX9 meth ret) (hT : xOK E) (hM : mx_H E s M H locs) (hk : E.1[k]? = some (.inl (3, fs))) (hf : fs[1]? = some f) (hv : mx_fv E.2.1 M k 1 f = v) (hdg : decode cc pc = .ok (.getfield 52, 3)) (kk : W p l e R s m args below meth c H locs cells slots Q (F0 m (pc + 3) ls (v :: rest))) : W p l e R s m args below meth c H locs cells slots Q (F0 m pc ls (.ref (E.2.1.2.1 k) :: rest)) := by
  subst hv
  exact mx_getN C hM cl_3 hk hf (by decide) (nw_117 hT C) hdg kk
theorem gX9_55 {k : Nat} {fs : List (Nat × Nat)} {f : Nat × Nat} {v : Value} (C : mx_C E p m c cc nL s args RX9 meth ret) (hT : xOK E) (hM : mx_H E s M H locs) (hk : E.1[k]? = some (.inl (3, fs))) (hf : fs[9]? = some f) (hv : mx_fv E.2.1 M k 9 f = v) (hdg : decode cc pc = .ok (.getfield 55, 3)) (kk : W p l e R s m args below meth c H locs cells slots Q (F0 m (pc + 3) ls (v :: rest))) : W p l e R s m args below meth c H locs cells slots Q (F0 m pc ls (.ref (E.2.1.2.1 k) :: rest)) := by
  subst hv
  exact mx_getN C hM cl_3 hk hf (by decide) (nw_144 hT C) hdg kk
theorem gX9_58 {k : Nat} {fs : List (Nat × Nat)} {f : Nat × Nat} {v : Value} (C : mx_C E p m c cc nL s args RX9 meth ret) (hM : mx_H E s M H locs) (hk : E.1[k]? = some (.inl (9, fs))) (hf : fs[9]? = some f) (hv : mx_fv E.2.1 M k 9 f = v) (hdg : decode cc pc = .ok (.getfield 58, 3)) (kk : W p l e R s m args below meth c H locs cells slots Q (F0 m (pc + 3) ls (v :: rest))) : W p l e R s m args below meth c H locs cells slots Q (F0 m pc ls (.ref (E.2.1.2.1 k) :: rest)) := by
  subst hv
  exact mx_get C hM cl_9 hk hf (by decide) qw_225 hdg kk
theorem gX9_61 {k : Nat} {fs : List (Nat × Nat)} {f : Nat × Nat} {v : Value} (C : mx_C E p m c cc nL s args RX9 meth ret) (hM : mx_H E s M H locs) (hk : E.1[k]? = some (.inl (9, fs))) (hf : fs[10]? = some f) (hv : mx_fv E.2.1 M k 10 f = v) (hdg : decode cc pc = .ok (.getfield 61, 3)) (kk : W p l e R s m args below meth c H locs cells slots Q (F0 m (pc + 3) ls (v :: rest))) : W p l e R s m args below meth c H locs cells slots Q (F0 m pc ls (.ref (E.2.1.2.1 k) :: rest)) := by
  subst hv
  exact mx_get C hM cl_9 hk hf (by decide) qw_228 hdg kk
theorem gX9_64 {k : Nat} {fs : List (Nat × Nat)} {f : Nat × Nat} {v : Value} (C : mx_C E p m c cc nL s args RX9 meth ret) (hM : mx_H E s M H locs) (hk : E.1[k]? = some (.inl (9, fs))) (hf : fs[11]? = some f) (hv : mx_fv E.2.1 M k 11 f = v) (hdg : decode cc pc = .ok (.getfield 64, 3)) (kk : W p l e R s m args below meth c H locs cells slots Q (F0 m (pc + 3) ls (v :: rest))) : W p l e R s m args below meth c H locs cells slots Q (F0 m pc ls (.ref (E.2.1.2.1 k) :: rest)) := by
  subst hv
  exact mx_get C hM cl_9 hk hf (by decide) qw_230 hdg kk
theorem gX9_76 {k : Nat} {fs : List (Nat × Nat)} {f : Nat × Nat} {v : Value} (C : mx_C E p m c cc nL s args RX9 meth ret) (hT : xOK E) (hM : mx_H E s M H locs) (hk : E.1[k]? = some (.inl (3, fs))) (hf : fs[12]? = some f) (hv : mx_fv E.2.1 M k 12 f = v) (hdg : decode cc pc = .ok (.getfield 76, 3)) (kk : W p l e R s m args below meth c H locs cells slots Q (F0 m (pc + 3) ls (v :: rest))) : W p l e R s m args below meth c H locs cells slots Q (F0 m pc ls (.ref (E.2.1.2.1 k) :: rest)) := by
  subst hv
  exact mx_getN C hM cl_3 hk hf (by decide) (nw_151 hT C) hdg kk
theorem gX9_87 {k : Nat} {fs : List (Nat × Nat)} {f : Nat × Nat} {v : Value} (C : mx_C E p m c cc nL s args RX9 meth ret) (hT : xOK E) (hM : mx_H E s M H locs) (hk : E.1[k]? = some (.inl (3, fs))) (hf : fs[8]? = some f) (hv : mx_fv E.2.1 M k 8 f = v) (hdg : decode cc pc = .ok (.getfield 87, 3)) (kk : W p l e R s m args below meth c H locs cells slots Q (F0 m (pc + 3) ls (v :: rest))) : W p l e R s m args below meth c H locs cells slots Q (F0 m pc ls (.ref (E.2.1.2.1 k) :: rest)) := by
  subst hv
  exact mx_getN C hM cl_3 hk hf (by decide) (nw_142 hT C) hdg kk
theorem gX9_113 {k : Nat} {fs : List (Nat × Nat)} {f : Nat × Nat} {v : Value} (C : mx_C E p m c cc nL s args RX9 meth ret) (hT : xOK E) (hM : mx_H E s M H locs) (hk : E.1[k]? = some (.inl (3, fs))) (hf : fs[7]? = some f) (hv : mx_fv E.2.1 M k 7 f = v) (hdg : decode cc pc = .ok (.getfield 113, 3)) (kk : W p l e R s m args below meth c H locs cells slots Q (F0 m (pc + 3) ls (v :: rest))) : W p l e R s m args below meth c H locs cells slots Q (F0 m pc ls (.ref (E.2.1.2.1 k) :: rest)) := by
  subst hv
  exact mx_getN C hM cl_3 hk hf (by decide) (nw_137 hT C) hdg kk
theorem gX9_123 {k : Nat} {fs : List (Nat × Nat)} {f : Nat × Nat} {v : Value} (C : mx_C E p m c cc nL s args RX9 meth ret) (hT : xOK E) (hM : mx_H E s M H locs) (hk : E.1[k]? = some (.inl (3, fs))) (hf : fs[10]? = some f) (hv : mx_fv E.2.1 M k 10 f = v) (hdg : decode cc pc = .ok (.getfield 123, 3)) (kk : W p l e R s m args below meth c H locs cells slots Q (F0 m (pc + 3) ls (v :: rest))) : W p l e R s m args below meth c H locs cells slots Q (F0 m pc ls (.ref (E.2.1.2.1 k) :: rest)) := by
  subst hv
  exact mx_getN C hM cl_3 hk hf (by decide) (nw_147 hT C) hdg kk
theorem gX9_137 {k : Nat} {fs : List (Nat × Nat)} {f : Nat × Nat} {v : Value} (C : mx_C E p m c cc nL s args RX9 meth ret) (hT : xOK E) (hM : mx_H E s M H locs) (hk : E.1[k]? = some (.inl (3, fs))) (hf : fs[13]? = some f) (hv : mx_fv E.2.1 M k 13 f = v) (hdg : decode cc pc = .ok (.getfield 137, 3)) (kk : W p l e R s m args below meth c H locs cells slots Q (F0 m (pc + 3) ls (v :: rest))) : W p l e R s m args below meth c H locs cells slots Q (F0 m pc ls (.ref (E.2.1.2.1 k) :: rest)) := by
  subst hv
  exact mx_getN C hM cl_3 hk hf (by decide) (nw_154 hT C) hdg kk
theorem gX9_144 {k : Nat} {fs : List (Nat × Nat)} {f : Nat × Nat} {v : Value} (C : mx_C E p m c cc nL s args RX9 meth ret) (hM : mx_H E s M H locs) (hk : E.1[k]? = some (.inl (9, fs))) (hf : fs[12]? = some f) (hv : mx_fv E.2.1 M k 12 f = v) (hdg : decode cc pc = .ok (.getfield 144, 3)) (kk : W p l e R s m args below meth c H locs cells slots Q (F0 m (pc + 3) ls (v :: rest))) : W p l e R s m args below meth c H locs cells slots Q (F0 m pc ls (.ref (E.2.1.2.1 k) :: rest)) := by
  subst hv
  exact mx_get C hM cl_9 hk hf (by decide) qw_232 hdg kk
theorem pX1_24 {k : Nat} {fs : List (Nat × Nat)} {v : Int32} (C : mx_C E p m c cc nL s args RX1 meth ret) (hM : mx_H E s M H locs) (hk : E.1[k]? = some (.inl (1, fs))) (hf : fs[4]? = some (0, 0)) (hn : narrow .int (.int v) = .int v) (hfi : fits .int (.int v) = true) (hdg : decode cc pc = .ok (.putfield 24, 3)) (kk : ∀ (H : Heap) (locs : List Loc), mx_H E s (mx_si M k 4 v) H locs → W p l e R s m args below meth c H locs cells slots Q (F0 m (pc + 3) ls rest)) : W p l e R s m args below meth c H locs cells slots Q (F0 m pc ls (.int v :: .ref (E.2.1.2.1 k) :: rest)) := mx_puti C hM cl_1 hk hf (by decide) qw_312 rfl hn hfi hdg kk
theorem pX1_108 {k : Nat} {fs : List (Nat × Nat)} {v : Int32} (C : mx_C E p m c cc nL s args RX1 meth ret) (hM : mx_H E s M H locs) (hk : E.1[k]? = some (.inl (1, fs))) (hf : fs[6]? = some (0, 0)) (hn : narrow .int (.int v) = .int v) (hfi : fits .int (.int v) = true) (hdg : decode cc pc = .ok (.putfield 108, 3)) (kk : ∀ (H : Heap) (locs : List Loc), mx_H E s (mx_si M k 6 v) H locs → W p l e R s m args below meth c H locs cells slots Q (F0 m (pc + 3) ls rest)) : W p l e R s m args below meth c H locs cells slots Q (F0 m pc ls (.int v :: .ref (E.2.1.2.1 k) :: rest)) := mx_puti C hM cl_1 hk hf (by decide) qw_315 rfl hn hfi hdg kk
theorem pX1_111 {k : Nat} {fs : List (Nat × Nat)} {v : Int32} (C : mx_C E p m c cc nL s args RX1 meth ret) (hM : mx_H E s M H locs) (hk : E.1[k]? = some (.inl (1, fs))) (hf : fs[7]? = some (0, 0)) (hn : narrow .int (.int v) = .int v) (hfi : fits .int (.int v) = true) (hdg : decode cc pc = .ok (.putfield 111, 3)) (kk : ∀ (H : Heap) (locs : List Loc), mx_H E s (mx_si M k 7 v) H locs → W p l e R s m args below meth c H locs cells slots Q (F0 m (pc + 3) ls rest)) : W p l e R s m args below meth c H locs cells slots Q (F0 m pc ls (.int v :: .ref (E.2.1.2.1 k) :: rest)) := mx_puti C hM cl_1 hk hf (by decide) qw_317 rfl hn hfi hdg kk
theorem pX1_123 {k : Nat} {fs : List (Nat × Nat)} {v : Int32} (C : mx_C E p m c cc nL s args RX1 meth ret) (hM : mx_H E s M H locs) (hk : E.1[k]? = some (.inl (1, fs))) (hf : fs[8]? = some (0, 0)) (hn : narrow .int (.int v) = .int v) (hfi : fits .int (.int v) = true) (hdg : decode cc pc = .ok (.putfield 123, 3)) (kk : ∀ (H : Heap) (locs : List Loc), mx_H E s (mx_si M k 8 v) H locs → W p l e R s m args below meth c H locs cells slots Q (F0 m (pc + 3) ls rest)) : W p l e R s m args below meth c H locs cells slots Q (F0 m pc ls (.int v :: .ref (E.2.1.2.1 k) :: rest)) := mx_puti C hM cl_1 hk hf (by decide) qw_319 rfl hn hfi hdg kk
theorem pX1_130 {k : Nat} {fs : List (Nat × Nat)} {v : Int32} (C : mx_C E p m c cc nL s args RX1 meth ret) (hM : mx_H E s M H locs) (hk : E.1[k]? = some (.inl (1, fs))) (hf : fs[9]? = some (0, 0)) (hn : narrow .int (.int v) = .int v) (hfi : fits .int (.int v) = true) (hdg : decode cc pc = .ok (.putfield 130, 3)) (kk : ∀ (H : Heap) (locs : List Loc), mx_H E s (mx_si M k 9 v) H locs → W p l e R s m args below meth c H locs cells slots Q (F0 m (pc + 3) ls rest)) : W p l e R s m args below meth c H locs cells slots Q (F0 m pc ls (.int v :: .ref (E.2.1.2.1 k) :: rest)) := mx_puti C hM cl_1 hk hf (by decide) qw_321 rfl hn hfi hdg kk
theorem pX1_133 {k : Nat} {fs : List (Nat × Nat)} {v : Int32} (C : mx_C E p m c cc nL s args RX1 meth ret) (hM : mx_H E s M H locs) (hk : E.1[k]? = some (.inl (1, fs))) (hf : fs[5]? = some (0, 0)) (hn : narrow .boolean (.int v) = .int v) (hfi : fits .boolean (.int v) = true) (hdg : decode cc pc = .ok (.putfield 133, 3)) (kk : ∀ (H : Heap) (locs : List Loc), mx_H E s (mx_si M k 5 v) H locs → W p l e R s m args below meth c H locs cells slots Q (F0 m (pc + 3) ls rest)) : W p l e R s m args below meth c H locs cells slots Q (F0 m pc ls (.int v :: .ref (E.2.1.2.1 k) :: rest)) := mx_puti C hM cl_1 hk hf (by decide) qw_313 rfl hn hfi hdg kk
theorem pX10_15 {k : Nat} {fs : List (Nat × Nat)} {v : Int32} (C : mx_C E p m c cc nL s args RX10 meth ret) (hM : mx_H E s M H locs) (hk : E.1[k]? = some (.inl (10, fs))) (hf : fs[1]? = some (0, 0)) (hn : narrow .int (.int v) = .int v) (hfi : fits .int (.int v) = true) (hdg : decode cc pc = .ok (.putfield 15, 3)) (kk : ∀ (H : Heap) (locs : List Loc), mx_H E s (mx_si M k 1 v) H locs → W p l e R s m args below meth c H locs cells slots Q (F0 m (pc + 3) ls rest)) : W p l e R s m args below meth c H locs cells slots Q (F0 m pc ls (.int v :: .ref (E.2.1.2.1 k) :: rest)) := mx_puti C hM cl_10 hk hf (by decide) qw_42 rfl hn hfi hdg kk
theorem pX12_140 {k : Nat} {fs : List (Nat × Nat)} {v : Int32} (C : mx_C E p m c cc nL s args RX12 meth ret) (hM : mx_H E s M H locs) (hk : E.1[k]? = some (.inl (12, fs))) (hf : fs[18]? = some (0, 0)) (hn : narrow .int (.int v) = .int v) (hfi : fits .int (.int v) = true) (hdg : decode cc pc = .ok (.putfield 140, 3)) (kk : ∀ (H : Heap) (locs : List Loc), mx_H E s (mx_si M k 18 v) H locs → W p l e R s m args below meth c H locs cells slots Q (F0 m (pc + 3) ls rest)) : W p l e R s m args below meth c H locs cells slots Q (F0 m pc ls (.int v :: .ref (E.2.1.2.1 k) :: rest)) := mx_puti C hM cl_12 hk hf (by decide) qw_432 rfl hn hfi hdg kk
theorem pX2_9 {k : Nat} {fs : List (Nat × Nat)} {v : Int32} (C : mx_C E p m c cc nL s args RX2 meth ret) (hM : mx_H E s M H locs) (hk : E.1[k]? = some (.inl (2, fs))) (hf : fs[0]? = some (0, 0)) (hn : narrow .int (.int v) = .int v) (hfi : fits .int (.int v) = true) (hdg : decode cc pc = .ok (.putfield 9, 3)) (kk : ∀ (H : Heap) (locs : List Loc), mx_H E s (mx_si M k 0 v) H locs → W p l e R s m args below meth c H locs cells slots Q (F0 m (pc + 3) ls rest)) : W p l e R s m args below meth c H locs cells slots Q (F0 m pc ls (.int v :: .ref (E.2.1.2.1 k) :: rest)) := mx_puti C hM cl_2 hk hf (by decide) qw_382 rfl hn hfi hdg kk
theorem pX2_15 {k : Nat} {fs : List (Nat × Nat)} {v : Int32} (C : mx_C E p m c cc nL s args RX2 meth ret) (hM : mx_H E s M H locs) (hk : E.1[k]? = some (.inl (2, fs))) (hf : fs[1]? = some (0, 0)) (hn : narrow .int (.int v) = .int v) (hfi : fits .int (.int v) = true) (hdg : decode cc pc = .ok (.putfield 15, 3)) (kk : ∀ (H : Heap) (locs : List Loc), mx_H E s (mx_si M k 1 v) H locs → W p l e R s m args below meth c H locs cells slots Q (F0 m (pc + 3) ls rest)) : W p l e R s m args below meth c H locs cells slots Q (F0 m pc ls (.int v :: .ref (E.2.1.2.1 k) :: rest)) := mx_puti C hM cl_2 hk hf (by decide) qw_384 rfl hn hfi hdg kk
theorem pX3_40 {k : Nat} {fs : List (Nat × Nat)} {v : Int32} (C : mx_C E p m c cc nL s args RX3 meth ret) (hM : mx_H E s M H locs) (hk : E.1[k]? = some (.inl (3, fs))) (hf : fs[11]? = some (0, 0)) (hn : narrow .int (.int v) = .int v) (hfi : fits .int (.int v) = true) (hdg : decode cc pc = .ok (.putfield 40, 3)) (kk : ∀ (H : Heap) (locs : List Loc), mx_H E s (mx_si M k 11 v) H locs → W p l e R s m args below meth c H locs cells slots Q (F0 m (pc + 3) ls rest)) : W p l e R s m args below meth c H locs cells slots Q (F0 m pc ls (.int v :: .ref (E.2.1.2.1 k) :: rest)) := mx_puti C hM cl_3 hk hf (by decide) qw_148 rfl hn hfi hdg kk
theorem pX3_44 {k : Nat} {fs : List (Nat × Nat)} {v : Int32} (C : mx_C E p m c cc nL s args RX3 meth ret) (hM : mx_H E s M H locs) (hk : E.1[k]? = some (.inl (3, fs))) (hf : fs[12]? = some (0, 0)) (hn : narrow .int (.int v) = .int v) (hfi : fits .int (.int v) = true) (hdg : decode cc pc = .ok (.putfield 44, 3)) (kk : ∀ (H : Heap) (locs : List Loc), mx_H E s (mx_si M k 12 v) H locs → W p l e R s m args below meth c H locs cells slots Q (F0 m (pc + 3) ls rest)) : W p l e R s m args below meth c H locs cells slots Q (F0 m pc ls (.int v :: .ref (E.2.1.2.1 k) :: rest)) := mx_puti C hM cl_3 hk hf (by decide) qw_150 rfl hn hfi hdg kk
theorem pX3_47 {k : Nat} {fs : List (Nat × Nat)} {v : Int32} (C : mx_C E p m c cc nL s args RX3 meth ret) (hM : mx_H E s M H locs) (hk : E.1[k]? = some (.inl (3, fs))) (hf : fs[13]? = some (0, 0)) (hn : narrow .int (.int v) = .int v) (hfi : fits .int (.int v) = true) (hdg : decode cc pc = .ok (.putfield 47, 3)) (kk : ∀ (H : Heap) (locs : List Loc), mx_H E s (mx_si M k 13 v) H locs → W p l e R s m args below meth c H locs cells slots Q (F0 m (pc + 3) ls rest)) : W p l e R s m args below meth c H locs cells slots Q (F0 m pc ls (.int v :: .ref (E.2.1.2.1 k) :: rest)) := mx_puti C hM cl_3 hk hf (by decide) qw_153 rfl hn hfi hdg kk
theorem pX3_50 {k : Nat} {fs : List (Nat × Nat)} {v : Int32} (C : mx_C E p m c cc nL s args RX3 meth ret) (hM : mx_H E s M H locs) (hk : E.1[k]? = some (.inl (3, fs))) (hf : fs[0]? = some (0, 0)) (hn : narrow .int (.int v) = .int v) (hfi : fits .int (.int v) = true) (hdg : decode cc pc = .ok (.putfield 50, 3)) (kk : ∀ (H : Heap) (locs : List Loc), mx_H E s (mx_si M k 0 v) H locs → W p l e R s m args below meth c H locs cells slots Q (F0 m (pc + 3) ls rest)) : W p l e R s m args below meth c H locs cells slots Q (F0 m pc ls (.int v :: .ref (E.2.1.2.1 k) :: rest)) := mx_puti C hM cl_3 hk hf (by decide) qw_112 rfl hn hfi hdg kk
theorem pX3_53 {k : Nat} {fs : List (Nat × Nat)} {v : Int32} (C : mx_C E p m c cc nL s args RX3 meth ret) (hM : mx_H E s M H locs) (hk : E.1[k]? = some (.inl (3, fs))) (hf : fs[1]? = some (0, 0)) (hn : narrow .int (.int v) = .int v) (hfi : fits .int (.int v) = true) (hdg : decode cc pc = .ok (.putfield 53, 3)) (kk : ∀ (H : Heap) (locs : List Loc), mx_H E s (mx_si M k 1 v) H locs → W p l e R s m args below meth c H locs cells slots Q (F0 m (pc + 3) ls rest)) : W p l e R s m args below meth c H locs cells slots Q (F0 m pc ls (.int v :: .ref (E.2.1.2.1 k) :: rest)) := mx_puti C hM cl_3 hk hf (by decide) qw_119 rfl hn hfi hdg kk
theorem pX3_56 {k : Nat} {fs : List (Nat × Nat)} {v : Int32} (C : mx_C E p m c cc nL s args RX3 meth ret) (hM : mx_H E s M H locs) (hk : E.1[k]? = some (.inl (3, fs))) (hf : fs[14]? = some (0, 0)) (hn : narrow .int (.int v) = .int v) (hfi : fits .int (.int v) = true) (hdg : decode cc pc = .ok (.putfield 56, 3)) (kk : ∀ (H : Heap) (locs : List Loc), mx_H E s (mx_si M k 14 v) H locs → W p l e R s m args below meth c H locs cells slots Q (F0 m (pc + 3) ls rest)) : W p l e R s m args below meth c H locs cells slots Q (F0 m pc ls (.int v :: .ref (E.2.1.2.1 k) :: rest)) := mx_puti C hM cl_3 hk hf (by decide) qw_157 rfl hn hfi hdg kk
theorem pX3_65 {k : Nat} {fs : List (Nat × Nat)} {v : Int32} (C : mx_C E p m c cc nL s args RX3 meth ret) (hM : mx_H E s M H locs) (hk : E.1[k]? = some (.inl (3, fs))) (hf : fs[15]? = some (0, 0)) (hn : narrow .boolean (.int v) = .int v) (hfi : fits .boolean (.int v) = true) (hdg : decode cc pc = .ok (.putfield 65, 3)) (kk : ∀ (H : Heap) (locs : List Loc), mx_H E s (mx_si M k 15 v) H locs → W p l e R s m args below meth c H locs cells slots Q (F0 m (pc + 3) ls rest)) : W p l e R s m args below meth c H locs cells slots Q (F0 m pc ls (.int v :: .ref (E.2.1.2.1 k) :: rest)) := mx_puti C hM cl_3 hk hf (by decide) qw_158 rfl hn hfi hdg kk
theorem pX3_69 {k : Nat} {fs : List (Nat × Nat)} {v : Int32} (C : mx_C E p m c cc nL s args RX3 meth ret) (hM : mx_H E s M H locs) (hk : E.1[k]? = some (.inl (3, fs))) (hf : fs[16]? = some (0, 0)) (hn : narrow .boolean (.int v) = .int v) (hfi : fits .boolean (.int v) = true) (hdg : decode cc pc = .ok (.putfield 69, 3)) (kk : ∀ (H : Heap) (locs : List Loc), mx_H E s (mx_si M k 16 v) H locs → W p l e R s m args below meth c H locs cells slots Q (F0 m (pc + 3) ls rest)) : W p l e R s m args below meth c H locs cells slots Q (F0 m pc ls (.int v :: .ref (E.2.1.2.1 k) :: rest)) := mx_puti C hM cl_3 hk hf (by decide) qw_159 rfl hn hfi hdg kk
theorem pX3_72 {k : Nat} {fs : List (Nat × Nat)} {v : Int32} (C : mx_C E p m c cc nL s args RX3 meth ret) (hM : mx_H E s M H locs) (hk : E.1[k]? = some (.inl (3, fs))) (hf : fs[17]? = some (0, 0)) (hn : narrow .boolean (.int v) = .int v) (hfi : fits .boolean (.int v) = true) (hdg : decode cc pc = .ok (.putfield 72, 3)) (kk : ∀ (H : Heap) (locs : List Loc), mx_H E s (mx_si M k 17 v) H locs → W p l e R s m args below meth c H locs cells slots Q (F0 m (pc + 3) ls rest)) : W p l e R s m args below meth c H locs cells slots Q (F0 m pc ls (.int v :: .ref (E.2.1.2.1 k) :: rest)) := mx_puti C hM cl_3 hk hf (by decide) qw_160 rfl hn hfi hdg kk
theorem pX4_28 {k : Nat} {fs : List (Nat × Nat)} {v : Int32} (C : mx_C E p m c cc nL s args RX4 meth ret) (hM : mx_H E s M H locs) (hk : E.1[k]? = some (.inl (4, fs))) (hf : fs[1]? = some (0, 0)) (hn : narrow .int (.int v) = .int v) (hfi : fits .int (.int v) = true) (hdg : decode cc pc = .ok (.putfield 28, 3)) (kk : ∀ (H : Heap) (locs : List Loc), mx_H E s (mx_si M k 1 v) H locs → W p l e R s m args below meth c H locs cells slots Q (F0 m (pc + 3) ls rest)) : W p l e R s m args below meth c H locs cells slots Q (F0 m pc ls (.int v :: .ref (E.2.1.2.1 k) :: rest)) := mx_puti C hM cl_4 hk hf (by decide) qw_405 rfl hn hfi hdg kk
theorem pX5_18 {k : Nat} {fs : List (Nat × Nat)} {v : Int32} (C : mx_C E p m c cc nL s args RX5 meth ret) (hM : mx_H E s M H locs) (hk : E.1[k]? = some (.inl (5, fs))) (hf : fs[1]? = some (0, 0)) (hn : narrow .int (.int v) = .int v) (hfi : fits .int (.int v) = true) (hdg : decode cc pc = .ok (.putfield 18, 3)) (kk : ∀ (H : Heap) (locs : List Loc), mx_H E s (mx_si M k 1 v) H locs → W p l e R s m args below meth c H locs cells slots Q (F0 m (pc + 3) ls rest)) : W p l e R s m args below meth c H locs cells slots Q (F0 m pc ls (.int v :: .ref (E.2.1.2.1 k) :: rest)) := mx_puti C hM cl_5 hk hf (by decide) qw_270 rfl hn hfi hdg kk
theorem pX6_18 {k : Nat} {fs : List (Nat × Nat)} {v : Int32} (C : mx_C E p m c cc nL s args RX6 meth ret) (hM : mx_H E s M H locs) (hk : E.1[k]? = some (.inl (6, fs))) (hf : fs[3]? = some (0, 0)) (hn : narrow .int (.int v) = .int v) (hfi : fits .int (.int v) = true) (hdg : decode cc pc = .ok (.putfield 18, 3)) (kk : ∀ (H : Heap) (locs : List Loc), mx_H E s (mx_si M k 3 v) H locs → W p l e R s m args below meth c H locs cells slots Q (F0 m (pc + 3) ls rest)) : W p l e R s m args below meth c H locs cells slots Q (F0 m pc ls (.int v :: .ref (E.2.1.2.1 k) :: rest)) := mx_puti C hM cl_6 hk hf (by decide) qw_356 rfl hn hfi hdg kk
theorem pX6_78 {k : Nat} {fs : List (Nat × Nat)} {v : Int32} (C : mx_C E p m c cc nL s args RX6 meth ret) (hM : mx_H E s M H locs) (hk : E.1[k]? = some (.inl (6, fs))) (hf : fs[1]? = some (0, 0)) (hn : narrow .int (.int v) = .int v) (hfi : fits .int (.int v) = true) (hdg : decode cc pc = .ok (.putfield 78, 3)) (kk : ∀ (H : Heap) (locs : List Loc), mx_H E s (mx_si M k 1 v) H locs → W p l e R s m args below meth c H locs cells slots Q (F0 m (pc + 3) ls rest)) : W p l e R s m args below meth c H locs cells slots Q (F0 m pc ls (.int v :: .ref (E.2.1.2.1 k) :: rest)) := mx_puti C hM cl_6 hk hf (by decide) qw_352 rfl hn hfi hdg kk
theorem pX7_41 {k : Nat} {fs : List (Nat × Nat)} {v : Int32} (C : mx_C E p m c cc nL s args RX7 meth ret) (hM : mx_H E s M H locs) (hk : E.1[k]? = some (.inl (7, fs))) (hf : fs[8]? = some (0, 0)) (hn : narrow .int (.int v) = .int v) (hfi : fits .int (.int v) = true) (hdg : decode cc pc = .ok (.putfield 41, 3)) (kk : ∀ (H : Heap) (locs : List Loc), mx_H E s (mx_si M k 8 v) H locs → W p l e R s m args below meth c H locs cells slots Q (F0 m (pc + 3) ls rest)) : W p l e R s m args below meth c H locs cells slots Q (F0 m pc ls (.int v :: .ref (E.2.1.2.1 k) :: rest)) := mx_puti C hM cl_7 hk hf (by decide) qw_70 rfl hn hfi hdg kk
theorem pX7_45 {k : Nat} {fs : List (Nat × Nat)} {v : Int32} (C : mx_C E p m c cc nL s args RX7 meth ret) (hM : mx_H E s M H locs) (hk : E.1[k]? = some (.inl (7, fs))) (hf : fs[7]? = some (0, 0)) (hn : narrow .int (.int v) = .int v) (hfi : fits .int (.int v) = true) (hdg : decode cc pc = .ok (.putfield 45, 3)) (kk : ∀ (H : Heap) (locs : List Loc), mx_H E s (mx_si M k 7 v) H locs → W p l e R s m args below meth c H locs cells slots Q (F0 m (pc + 3) ls rest)) : W p l e R s m args below meth c H locs cells slots Q (F0 m pc ls (.int v :: .ref (E.2.1.2.1 k) :: rest)) := mx_puti C hM cl_7 hk hf (by decide) qw_69 rfl hn hfi hdg kk
theorem pX7_48 {k : Nat} {fs : List (Nat × Nat)} {v : Int32} (C : mx_C E p m c cc nL s args RX7 meth ret) (hM : mx_H E s M H locs) (hk : E.1[k]? = some (.inl (7, fs))) (hf : fs[6]? = some (0, 0)) (hn : narrow .int (.int v) = .int v) (hfi : fits .int (.int v) = true) (hdg : decode cc pc = .ok (.putfield 48, 3)) (kk : ∀ (H : Heap) (locs : List Loc), mx_H E s (mx_si M k 6 v) H locs → W p l e R s m args below meth c H locs cells slots Q (F0 m (pc + 3) ls rest)) : W p l e R s m args below meth c H locs cells slots Q (F0 m pc ls (.int v :: .ref (E.2.1.2.1 k) :: rest)) := mx_puti C hM cl_7 hk hf (by decide) qw_68 rfl hn hfi hdg kk
theorem pX7_51 {k : Nat} {fs : List (Nat × Nat)} {v : Int32} (C : mx_C E p m c cc nL s args RX7 meth ret) (hM : mx_H E s M H locs) (hk : E.1[k]? = some (.inl (7, fs))) (hf : fs[10]? = some (0, 0)) (hn : narrow .int (.int v) = .int v) (hfi : fits .int (.int v) = true) (hdg : decode cc pc = .ok (.putfield 51, 3)) (kk : ∀ (H : Heap) (locs : List Loc), mx_H E s (mx_si M k 10 v) H locs → W p l e R s m args below meth c H locs cells slots Q (F0 m (pc + 3) ls rest)) : W p l e R s m args below meth c H locs cells slots Q (F0 m pc ls (.int v :: .ref (E.2.1.2.1 k) :: rest)) := mx_puti C hM cl_7 hk hf (by decide) qw_75 rfl hn hfi hdg kk
theorem pX7_54 {k : Nat} {fs : List (Nat × Nat)} {v : Int32} (C : mx_C E p m c cc nL s args RX7 meth ret) (hM : mx_H E s M H locs) (hk : E.1[k]? = some (.inl (7, fs))) (hf : fs[11]? = some (0, 0)) (hn : narrow .int (.int v) = .int v) (hfi : fits .int (.int v) = true) (hdg : decode cc pc = .ok (.putfield 54, 3)) (kk : ∀ (H : Heap) (locs : List Loc), mx_H E s (mx_si M k 11 v) H locs → W p l e R s m args below meth c H locs cells slots Q (F0 m (pc + 3) ls rest)) : W p l e R s m args below meth c H locs cells slots Q (F0 m pc ls (.int v :: .ref (E.2.1.2.1 k) :: rest)) := mx_puti C hM cl_7 hk hf (by decide) qw_77 rfl hn hfi hdg kk
theorem pX7_95 {k : Nat} {fs : List (Nat × Nat)} {v : Int32} (C : mx_C E p m c cc nL s args RX7 meth ret) (hM : mx_H E s M H locs) (hk : E.1[k]? = some (.inl (7, fs))) (hf : fs[9]? = some (0, 0)) (hn : narrow .int (.int v) = .int v) (hfi : fits .int (.int v) = true) (hdg : decode cc pc = .ok (.putfield 95, 3)) (kk : ∀ (H : Heap) (locs : List Loc), mx_H E s (mx_si M k 9 v) H locs → W p l e R s m args below meth c H locs cells slots Q (F0 m (pc + 3) ls rest)) : W p l e R s m args below meth c H locs cells slots Q (F0 m pc ls (.int v :: .ref (E.2.1.2.1 k) :: rest)) := mx_puti C hM cl_7 hk hf (by decide) qw_74 rfl hn hfi hdg kk
theorem pX8_28 {k : Nat} {fs : List (Nat × Nat)} {v : Int32} (C : mx_C E p m c cc nL s args RX8 meth ret) (hM : mx_H E s M H locs) (hk : E.1[k]? = some (.inl (8, fs))) (hf : fs[3]? = some (0, 0)) (hn : narrow .int (.int v) = .int v) (hfi : fits .int (.int v) = true) (hdg : decode cc pc = .ok (.putfield 28, 3)) (kk : ∀ (H : Heap) (locs : List Loc), mx_H E s (mx_si M k 3 v) H locs → W p l e R s m args below meth c H locs cells slots Q (F0 m (pc + 3) ls rest)) : W p l e R s m args below meth c H locs cells slots Q (F0 m pc ls (.int v :: .ref (E.2.1.2.1 k) :: rest)) := mx_puti C hM cl_8 hk hf (by decide) qw_288 rfl hn hfi hdg kk
theorem pX8_32 {k : Nat} {fs : List (Nat × Nat)} {v : Int32} (C : mx_C E p m c cc nL s args RX8 meth ret) (hM : mx_H E s M H locs) (hk : E.1[k]? = some (.inl (8, fs))) (hf : fs[4]? = some (0, 0)) (hn : narrow .int (.int v) = .int v) (hfi : fits .int (.int v) = true) (hdg : decode cc pc = .ok (.putfield 32, 3)) (kk : ∀ (H : Heap) (locs : List Loc), mx_H E s (mx_si M k 4 v) H locs → W p l e R s m args below meth c H locs cells slots Q (F0 m (pc + 3) ls rest)) : W p l e R s m args below meth c H locs cells slots Q (F0 m pc ls (.int v :: .ref (E.2.1.2.1 k) :: rest)) := mx_puti C hM cl_8 hk hf (by decide) qw_289 rfl hn hfi hdg kk
theorem pX9_58 {k : Nat} {fs : List (Nat × Nat)} {v : Int32} (C : mx_C E p m c cc nL s args RX9 meth ret) (hM : mx_H E s M H locs) (hk : E.1[k]? = some (.inl (9, fs))) (hf : fs[9]? = some (0, 0)) (hn : narrow .int (.int v) = .int v) (hfi : fits .int (.int v) = true) (hdg : decode cc pc = .ok (.putfield 58, 3)) (kk : ∀ (H : Heap) (locs : List Loc), mx_H E s (mx_si M k 9 v) H locs → W p l e R s m args below meth c H locs cells slots Q (F0 m (pc + 3) ls rest)) : W p l e R s m args below meth c H locs cells slots Q (F0 m pc ls (.int v :: .ref (E.2.1.2.1 k) :: rest)) := mx_puti C hM cl_9 hk hf (by decide) qw_225 rfl hn hfi hdg kk
theorem pX9_61 {k : Nat} {fs : List (Nat × Nat)} {v : Int32} (C : mx_C E p m c cc nL s args RX9 meth ret) (hM : mx_H E s M H locs) (hk : E.1[k]? = some (.inl (9, fs))) (hf : fs[10]? = some (0, 0)) (hn : narrow .int (.int v) = .int v) (hfi : fits .int (.int v) = true) (hdg : decode cc pc = .ok (.putfield 61, 3)) (kk : ∀ (H : Heap) (locs : List Loc), mx_H E s (mx_si M k 10 v) H locs → W p l e R s m args below meth c H locs cells slots Q (F0 m (pc + 3) ls rest)) : W p l e R s m args below meth c H locs cells slots Q (F0 m pc ls (.int v :: .ref (E.2.1.2.1 k) :: rest)) := mx_puti C hM cl_9 hk hf (by decide) qw_228 rfl hn hfi hdg kk
theorem pX9_64 {k : Nat} {fs : List (Nat × Nat)} {v : Int32} (C : mx_C E p m c cc nL s args RX9 meth ret) (hM : mx_H E s M H locs) (hk : E.1[k]? = some (.inl (9, fs))) (hf : fs[11]? = some (0, 0)) (hn : narrow .int (.int v) = .int v) (hfi : fits .int (.int v) = true) (hdg : decode cc pc = .ok (.putfield 64, 3)) (kk : ∀ (H : Heap) (locs : List Loc), mx_H E s (mx_si M k 11 v) H locs → W p l e R s m args below meth c H locs cells slots Q (F0 m (pc + 3) ls rest)) : W p l e R s m args below meth c H locs cells slots Q (F0 m pc ls (.int v :: .ref (E.2.1.2.1 k) :: rest)) := mx_puti C hM cl_9 hk hf (by decide) qw_230 rfl hn hfi hdg kk
theorem pX9_144 {k : Nat} {fs : List (Nat × Nat)} {v : Int32} (C : mx_C E p m c cc nL s args RX9 meth ret) (hM : mx_H E s M H locs) (hk : E.1[k]? = some (.inl (9, fs))) (hf : fs[12]? = some (0, 0)) (hn : narrow .int (.int v) = .int v) (hfi : fits .int (.int v) = true) (hdg : decode cc pc = .ok (.putfield 144, 3)) (kk : ∀ (H : Heap) (locs : List Loc), mx_H E s (mx_si M k 12 v) H locs → W p l e R s m args below meth c H locs cells slots Q (F0 m (pc + 3) ls rest)) : W p l e R s m args below meth c H locs cells slots Q (F0 m pc ls (.int v :: .ref (E.2.1.2.1 k) :: rest)) := mx_puti C hM cl_9 hk hf (by decide) qw_232 rfl hn hfi hdg kk
abbrev xyo : MethodName := yJx29ce0_ordinal_8abf5
theorem dJx29ce0_ordinal_8abf5_0 : decode cJx29ce0_ordinal_8abf5 0 = .ok (.aload_n 0, 1) := by decide +kernel
theorem dJx29ce0_ordinal_8abf5_1 : decode cJx29ce0_ordinal_8abf5 1 = .ok (.getfield 7, 3) := by decide +kernel
theorem dJx29ce0_ordinal_8abf5_4 : decode cJx29ce0_ordinal_8abf5 4 = .ok (.ireturn, 1) := by decide +kernel
theorem xk_ord {l : Launch} (hE : mx_ok E) (hT : xOK E) {w : Nat} (hw : w < 24) (M : MM) : mx_Met E l xyo cJx29ce0_ordinal_8abf5 1 (some .int) 0 [.ref (E.2.1.2.2.1 w)] M (some (.int (nI w))) M := by
  refine mx_enter hE (by decide) (Nat.le_of_ble_eq_true rfl) ?_
  intro p e s m below meth c C hM hn ls hl
  have hl : lv_has ls 1 [(0, .ref (E.2.1.2.2.1 w))] := hl
  refine lv_aload_n C.1.1 C.1.2.1 dJx29ce0_ordinal_8abf5_0 rfl (lv_at hl 0 rfl) ?_
  refine vk_getf C.1.1 C.1.2.1 ((hT.2 s C.2.2.1).1 w hw).2.2.1 hM.2 C.1.2.2.2.1 (C.1.2.2.2.2 _ qw_2032) (fun _ h => h) dJx29ce0_ordinal_8abf5_1 ?_
  exact mx_iretR C hM rfl dJx29ce0_ordinal_8abf5_4
theorem xw_ord {w index h : Nat} {st0 st1 : List Value} (C : mx_C E p m c cc nL s args own meth ret) (hT : xOK E) (hw : w < 24) (hM : mx_H E s M H locs) (hl : ls.size = nL) (hh : 0 < h) (hlink : Cond.methodLink own index (⟨"RingKeepers$Word", "ordinal", "()I"⟩ : MethodName) ∈ mx_wall) (hst : st0 = .ref (E.2.1.2.2.1 w) :: rest) (hs1 : .int (nI w) :: rest = st1) (hW : (rest.map fun v => v.category).sum ≤ 8) (hdg : decode cc pc = .ok (.invokevirtual index, 3))
    (kk : ∀ (H : Heap) (locs : List Loc), mx_H E s M H locs → W p l e (mx_rm h) s m args below meth c H locs 0 0 Q (F0 m (pc + 3) ls st1)) : W p l e (mx_rm h) s m args below meth c H locs 0 0 Q (F0 m pc ls st0) := by
  subst hs1
  have hts := C.1.2.2.2.2
  have hO := ((hT.2 s C.2.2.1).1 w hw).2.1.kept hM.2.2.1
  obtain ⟨cellV, g1, g2, g3, -⟩ := hO
  have hG : GoodIn mx_wall (va_wsU own index RX11 "java/lang/Enum" (⟨"RingKeepers$Word", "ordinal", "()I"⟩ : MethodName) xyo (Cond.code xyo cJx29ce0_ordinal_8abf5 1 (some .int) :: mx_wall)) := by
    have key : ∀ v ∈ mx_wall, v ∈ mx_wall ∧ ((v.onTables && v.keeps) = true ∨ ∃ ty, v = .arrayClass ty) := fun v hv => ⟨hv, good_of_word (List.mem_filter.mp hv).2⟩
    intro v hv
    unfold va_wsU at hv
    rcases List.mem_append.mp hv with h | h
    · simp only [List.mem_cons, List.not_mem_nil, or_false] at h
      rcases h with rfl | rfl | rfl | rfl | rfl
      · exact key _ hlink
      · exact key _ qw_552
      · exact key _ qw_554
      · exact key _ qw_555
      · exact key _ qw_4
    · exact mx_good qw_556 v h
  exact mx_back hM (va_runU C.1 (xk_ord C.2.2.2.1 hT hw M) (va_cwU 0 hts hG rfl rfl rfl rfl (by decide +kernel) (mx_rmle hh (by decide))) ⟨mx_blind C.2.2.2.1, ⟨cellV, g1, g2, g3⟩, mx_pre C hM⟩ rfl rfl hl hst (lv_room hW) hdg ⟨Nat.le_refl 0, Nat.le_refl 0⟩) kk
end XKT
theorem yo_J6_bitCount_0f7a4 : mx_Y yJ6_bitCount_0f7a4 cJ6_bitCount_0f7a4 1 (some .int) 1 := ⟨qw_789, qw_22, by decide +kernel, by decide⟩
theorem yo_X10_add : mx_Y yX10_add cX10_add 3 none 1 := ⟨qw_484, qw_2, by decide +kernel, by decide⟩
theorem yo_X10_at : mx_Y yX10_at cX10_at 2 (some .int) 1 := ⟨qw_508, qw_2, by decide +kernel, by decide⟩
theorem yo_X10_clear : mx_Y yX10_clear cX10_clear 1 none 0 := ⟨qw_625, qw_2, by decide +kernel, by decide⟩
theorem yo_X10_cut : mx_Y yX10_cut cX10_cut 2 (some .boolean) 1 := ⟨qw_492, qw_2, by decide +kernel, by decide⟩
theorem yo_X10_hasRoom : mx_Y yX10_hasRoom cX10_hasRoom 1 (some .boolean) 0 := ⟨qw_480, qw_2, by decide +kernel, by decide⟩
theorem yo_X11_coded : mx_Y yX11_coded cX11_coded 3 (some (.object "RingKeepers$Word")) 1 := ⟨qw_525, qw_5, by decide +kernel, by decide⟩
theorem yo_X12_isPlace : mx_Y yX12_isPlace cX12_isPlace 2 (some .boolean) 2 := ⟨qw_691, qw_1, by decide +kernel, by decide⟩
theorem yo_X12_keptIfDone : mx_Y yX12_keptIfDone cX12_keptIfDone 2 (some .int) 1 := ⟨qw_711, qw_1, by decide +kernel, by decide⟩
theorem yo_X12_keptIfSome : mx_Y yX12_keptIfSome cX12_keptIfSome 2 (some .int) 1 := ⟨qw_800, qw_1, by decide +kernel, by decide⟩
theorem yo_X1_failBehindAll : mx_Y yX1_failBehindAll cX1_failBehindAll 4 (some .boolean) 2 := ⟨qw_1132, qw_10, by decide +kernel, by decide⟩
theorem yo_X1_judge : mx_Y yX1_judge cX1_judge 4 (some .int) 1 := ⟨qw_1136, qw_10, by decide +kernel, by decide⟩
theorem yo_X1_live : mx_Y yX1_live cX1_live 4 (some .int) 2 := ⟨qw_1140, qw_10, by decide +kernel, by decide⟩
theorem yo_X1_liveDays : mx_Y yX1_liveDays cX1_liveDays 2 (some .int) 2 := ⟨qw_1148, qw_10, by decide +kernel, by decide⟩
theorem yo_X1_readAct : mx_Y yX1_readAct cX1_readAct 5 (some .boolean) 2 := ⟨qw_1109, qw_10, by decide +kernel, by decide⟩
theorem yo_X1_readBare : mx_Y yX1_readBare cX1_readBare 3 (some .boolean) 2 := ⟨qw_1117, qw_10, by decide +kernel, by decide⟩
theorem yo_X1_readFrom : mx_Y yX1_readFrom cX1_readFrom 3 (some .boolean) 2 := ⟨qw_1094, qw_10, by decide +kernel, by decide⟩
theorem yo_X1_readNumbers : mx_Y yX1_readNumbers cX1_readNumbers 5 (some .boolean) 4 := ⟨qw_1113, qw_10, by decide +kernel, by decide⟩
theorem yo_X1_readRingAct : mx_Y yX1_readRingAct cX1_readRingAct 4 (some .boolean) 3 := ⟨qw_1125, qw_10, by decide +kernel, by decide⟩
theorem yo_X1_takeWho : mx_Y yX1_takeWho cX1_takeWho 3 (some .boolean) 2 := ⟨qw_1099, qw_10, by decide +kernel, by decide⟩
theorem yo_X2_areTries : mx_Y yX2_areTries cX2_areTries 4 (some .boolean) 2 := ⟨qw_911, qw_12, by decide +kernel, by decide⟩
theorem yo_X2_bestToTry : mx_Y yX2_bestToTry cX2_bestToTry 6 (some .int) 2 := ⟨qw_920, qw_12, by decide +kernel, by decide⟩
theorem yo_X2_countVotes : mx_Y yX2_countVotes cX2_countVotes 6 none 2 := ⟨qw_966, qw_12, by decide +kernel, by decide⟩
theorem yo_X2_giveAllBut : mx_Y yX2_giveAllBut cX2_giveAllBut 5 (some .int) 2 := ⟨qw_947, qw_12, by decide +kernel, by decide⟩
theorem yo_X2_giveOne : mx_Y yX2_giveOne cX2_giveOne 6 none 3 := ⟨qw_951, qw_12, by decide +kernel, by decide⟩
theorem yo_X2_isJustSo : mx_Y yX2_isJustSo cX2_isJustSo 4 (some .boolean) 3 := ⟨qw_916, qw_12, by decide +kernel, by decide⟩
theorem yo_X2_likeliest : mx_Y yX2_likeliest cX2_likeliest 6 (some .int) 2 := ⟨qw_962, qw_12, by decide +kernel, by decide⟩
theorem yo_X2_mayHave : mx_Y yX2_mayHave cX2_mayHave 4 (some .boolean) 4 := ⟨qw_954, qw_12, by decide +kernel, by decide⟩
theorem yo_X2_mostLeftBy : mx_Y yX2_mostLeftBy cX2_mostLeftBy 8 (some .int) 3 := ⟨qw_923, qw_12, by decide +kernel, by decide⟩
theorem yo_X2_readTries : mx_Y yX2_readTries cX2_readTries 5 (some .int) 2 := ⟨qw_908, qw_12, by decide +kernel, by decide⟩
theorem yo_X2_waysToGive : mx_Y yX2_waysToGive cX2_waysToGive 5 (some .int) 1 := ⟨qw_943, qw_12, by decide +kernel, by decide⟩
theorem yo_X3_clear : mx_Y yX3_clear cX3_clear 1 none 0 := ⟨qw_536, qw_6, by decide +kernel, by decide⟩
theorem yo_X3_copyFrom : mx_Y yX3_copyFrom cX3_copyFrom 2 none 1 := ⟨qw_629, qw_6, by decide +kernel, by decide⟩
theorem yo_X3_feel : mx_Y yX3_feel cX3_feel 4 (some .int) 2 := ⟨qw_668, qw_6, by decide +kernel, by decide⟩
theorem yo_X3_isPerson : mx_Y yX3_isPerson cX3_isPerson 2 (some .boolean) 1 := ⟨qw_664, qw_6, by decide +kernel, by decide⟩
theorem yo_X3_isRing : mx_Y yX3_isRing cX3_isRing 2 (some .boolean) 1 := ⟨qw_660, qw_6, by decide +kernel, by decide⟩
theorem yo_X3_ownedBy : mx_Y yX3_ownedBy cX3_ownedBy 4 (some .int) 1 := ⟨qw_1237, qw_6, by decide +kernel, by decide⟩
theorem yo_X3_personNamed : mx_Y yX3_personNamed cX3_personNamed 4 (some .int) 1 := ⟨qw_580, qw_6, by decide +kernel, by decide⟩
theorem yo_X3_readFit : mx_Y yX3_readFit cX3_readFit 2 (some .boolean) 1 := ⟨qw_602, qw_6, by decide +kernel, by decide⟩
theorem yo_X3_readFrom : mx_Y yX3_readFrom cX3_readFrom 2 (some .boolean) 1 := ⟨qw_532, qw_6, by decide +kernel, by decide⟩
theorem yo_X3_readJingle : mx_Y yX3_readJingle cX3_readJingle 2 (some .boolean) 1 := ⟨qw_613, qw_6, by decide +kernel, by decide⟩
theorem yo_X3_readLine : mx_Y yX3_readLine cX3_readLine 2 (some .boolean) 1 := ⟨qw_544, qw_6, by decide +kernel, by decide⟩
theorem yo_X3_readPerson : mx_Y yX3_readPerson cX3_readPerson 3 (some .boolean) 1 := ⟨qw_560, qw_6, by decide +kernel, by decide⟩
theorem yo_X3_readRing : mx_Y yX3_readRing cX3_readRing 3 (some .boolean) 1 := ⟨qw_594, qw_6, by decide +kernel, by decide⟩
theorem yo_X3_readWalk : mx_Y yX3_readWalk cX3_readWalk 2 (some .boolean) 1 := ⟨qw_609, qw_6, by decide +kernel, by decide⟩
theorem yo_X3_ringNamed : mx_Y yX3_ringNamed cX3_ringNamed 4 (some .int) 1 := ⟨qw_584, qw_6, by decide +kernel, by decide⟩
theorem yo_X3_takeNewName : mx_Y yX3_takeNewName cX3_takeNewName 2 (some .boolean) 1 := ⟨qw_576, qw_6, by decide +kernel, by decide⟩
theorem yo_X3_takeOnce : mx_Y yX3_takeOnce cX3_takeOnce 4 (some .boolean) 4 := ⟨qw_605, qw_6, by decide +kernel, by decide⟩
theorem yo_X4_add : mx_Y yX4_add cX4_add 2 none 1 := ⟨qw_1000, qw_13, by decide +kernel, by decide⟩
theorem yo_X4_addName : mx_Y yX4_addName cX4_addName 5 none 1 := ⟨qw_996, qw_13, by decide +kernel, by decide⟩
theorem yo_X4_addText : mx_Y yX4_addText cX4_addText 3 none 1 := ⟨qw_1005, qw_13, by decide +kernel, by decide⟩
theorem yo_X4_write : mx_Y yX4_write cX4_write 7 none 2 := ⟨qw_990, qw_13, by decide +kernel, by decide⟩
theorem yo_X5_clear : mx_Y yX5_clear cX5_clear 1 none 0 := ⟨qw_648, qw_8, by decide +kernel, by decide⟩
theorem yo_X5_dropOldest : mx_Y yX5_dropOldest cX5_dropOldest 3 none 0 := ⟨qw_719, qw_8, by decide +kernel, by decide⟩
theorem yo_X5_push : mx_Y yX5_push cX5_push 2 none 1 := ⟨qw_715, qw_8, by decide +kernel, by decide⟩
theorem yo_X5_takeBack : mx_Y yX5_takeBack cX5_takeBack 2 none 1 := ⟨qw_808, qw_8, by decide +kernel, by decide⟩
theorem yo_X6_chainFrom : mx_Y yX6_chainFrom cX6_chainFrom 5 (some .int) 2 := ⟨qw_974, qw_11, by decide +kernel, by decide⟩
theorem yo_X6_firstKeeper : mx_Y yX6_firstKeeper cX6_firstKeeper 5 (some .int) 3 := ⟨qw_896, qw_11, by decide +kernel, by decide⟩
theorem yo_X6_firstOfTour : mx_Y yX6_firstOfTour cX6_firstOfTour 5 (some .int) 3 := ⟨qw_864, qw_11, by decide +kernel, by decide⟩
theorem yo_X6_followKeepers : mx_Y yX6_followKeepers cX6_followKeepers 6 none 2 := ⟨qw_892, qw_11, by decide +kernel, by decide⟩
theorem yo_X6_followTour : mx_Y yX6_followTour cX6_followTour 8 none 3 := ⟨qw_860, qw_11, by decide +kernel, by decide⟩
theorem yo_X6_keeperOfFirst : mx_Y yX6_keeperOfFirst cX6_keeperOfFirst 3 (some .int) 2 := ⟨qw_977, qw_11, by decide +kernel, by decide⟩
theorem yo_X6_keepersBy : mx_Y yX6_keepersBy cX6_keepersBy 5 (some .int) 4 := ⟨qw_888, qw_11, by decide +kernel, by decide⟩
theorem yo_X6_leastKeepers : mx_Y yX6_leastKeepers cX6_leastKeepers 7 (some .int) 3 := ⟨qw_880, qw_11, by decide +kernel, by decide⟩
theorem yo_X6_leastTour : mx_Y yX6_leastTour cX6_leastTour 6 (some .int) 3 := ⟨qw_844, qw_11, by decide +kernel, by decide⟩
theorem yo_X6_mayKeep : mx_Y yX6_mayKeep cX6_mayKeep 4 (some .boolean) 4 := ⟨qw_884, qw_11, by decide +kernel, by decide⟩
theorem yo_X6_ownersOfKept : mx_Y yX6_ownersOfKept cX6_ownersOfKept 4 (some .int) 2 := ⟨qw_839, qw_11, by decide +kernel, by decide⟩
theorem yo_X6_planKeepers : mx_Y yX6_planKeepers cX6_planKeepers 4 (some .int) 1 := ⟨qw_876, qw_11, by decide +kernel, by decide⟩
theorem yo_X6_planTour : mx_Y yX6_planTour cX6_planTour 6 (some .int) 2 := ⟨qw_836, qw_11, by decide +kernel, by decide⟩
theorem yo_X6_tourBy : mx_Y yX6_tourBy cX6_tourBy 5 (some .int) 4 := ⟨qw_849, qw_11, by decide +kernel, by decide⟩
theorem yo_X7_advance : mx_Y yX7_advance cX7_advance 1 none 0 := ⟨qw_568, qw_3, by decide +kernel, by decide⟩
theorem yo_X7_fail : mx_Y yX7_fail cX7_fail 2 (some .boolean) 1 := ⟨qw_564, qw_3, by decide +kernel, by decide⟩
theorem yo_X7_isAt : mx_Y yX7_isAt cX7_isAt 2 (some .boolean) 1 := ⟨qw_540, qw_3, by decide +kernel, by decide⟩
theorem yo_X7_isAtSign : mx_Y yX7_isAtSign cX7_isAtSign 2 (some .boolean) 1 := ⟨qw_621, qw_3, by decide +kernel, by decide⟩
theorem yo_X7_isBlank : mx_Y yX7_isBlank cX7_isBlank 1 (some .boolean) 1 := ⟨qw_511, qw_3, by decide +kernel, by decide⟩
theorem yo_X7_isDigit : mx_Y yX7_isDigit cX7_isDigit 1 (some .boolean) 1 := ⟨qw_517, qw_3, by decide +kernel, by decide⟩
theorem yo_X7_isLetter : mx_Y yX7_isLetter cX7_isLetter 1 (some .boolean) 1 := ⟨qw_514, qw_3, by decide +kernel, by decide⟩
theorem yo_X7_key : mx_Y yX7_key cX7_key 1 (some (.object "RingKeepers$Word")) 0 := ⟨qw_550, qw_3, by decide +kernel, by decide⟩
theorem yo_X7_name : mx_Y yX7_name cX7_name 1 (some .long) 0 := ⟨qw_572, qw_3, by decide +kernel, by decide⟩
theorem yo_X7_open : mx_Y yX7_open cX7_open 4 none 1 := ⟨qw_500, qw_3, by decide +kernel, by decide⟩
theorem yo_X7_scan : mx_Y yX7_scan cX7_scan 3 (some .int) 1 := ⟨qw_504, qw_3, by decide +kernel, by decide⟩
theorem yo_X7_scanRun : mx_Y yX7_scanRun cX7_scanRun 9 (some .int) 1 := ⟨qw_521, qw_3, by decide +kernel, by decide⟩
theorem yo_X7_takeNamed : mx_Y yX7_takeNamed cX7_takeNamed 2 (some .boolean) 1 := ⟨qw_598, qw_3, by decide +kernel, by decide⟩
theorem yo_X7_takeNumber : mx_Y yX7_takeNumber cX7_takeNumber 3 (some .boolean) 2 := ⟨qw_588, qw_3, by decide +kernel, by decide⟩
theorem yo_X7_takeSign : mx_Y yX7_takeSign cX7_takeSign 2 (some .boolean) 1 := ⟨qw_617, qw_3, by decide +kernel, by decide⟩
theorem yo_X8_beginsOne : mx_Y yX8_beginsOne cX8_beginsOne 1 (some .boolean) 1 := ⟨qw_1180, qw_9, by decide +kernel, by decide⟩
theorem yo_X8_clear : mx_Y yX8_clear cX8_clear 1 none 0 := ⟨qw_644, qw_9, by decide +kernel, by decide⟩
theorem yo_X8_compares : mx_Y yX8_compares cX8_compares 3 (some .boolean) 2 := ⟨qw_1250, qw_9, by decide +kernel, by decide⟩
theorem yo_X8_copyFrom : mx_Y yX8_copyFrom cX8_copyFrom 3 none 1 := ⟨qw_1216, qw_9, by decide +kernel, by decide⟩
theorem yo_X8_holdsOf : mx_Y yX8_holdsOf cX8_holdsOf 10 (some .boolean) 2 := ⟨qw_1225, qw_9, by decide +kernel, by decide⟩
theorem yo_X8_isHappy : mx_Y yX8_isHappy cX8_isHappy 4 (some .boolean) 2 := ⟨qw_1233, qw_9, by decide +kernel, by decide⟩
theorem yo_X8_isSo : mx_Y yX8_isSo cX8_isSo 4 (some .boolean) 3 := ⟨qw_1229, qw_9, by decide +kernel, by decide⟩
theorem yo_X8_put : mx_Y yX8_put cX8_put 4 none 3 := ⟨qw_1191, qw_9, by decide +kernel, by decide⟩
theorem yo_X8_putTaken : mx_Y yX8_putTaken cX8_putTaken 4 (some .boolean) 3 := ⟨qw_1202, qw_9, by decide +kernel, by decide⟩
theorem yo_X8_readAll : mx_Y yX8_readAll cX8_readAll 5 (some .boolean) 3 := ⟨qw_1171, qw_9, by decide +kernel, by decide⟩
theorem yo_X8_readCond : mx_Y yX8_readCond cX8_readCond 5 (some .boolean) 3 := ⟨qw_1167, qw_9, by decide +kernel, by decide⟩
theorem yo_X8_readFrom : mx_Y yX8_readFrom cX8_readFrom 3 (some .boolean) 2 := ⟨qw_1162, qw_9, by decide +kernel, by decide⟩
theorem yo_X8_readOne : mx_Y yX8_readOne cX8_readOne 6 (some .boolean) 3 := ⟨qw_1175, qw_9, by decide +kernel, by decide⟩
theorem yo_X8_readPlain : mx_Y yX8_readPlain cX8_readPlain 5 (some .boolean) 3 := ⟨qw_1195, qw_9, by decide +kernel, by decide⟩
theorem yo_X8_signAt : mx_Y yX8_signAt cX8_signAt 1 (some .char) 1 := ⟨qw_1206, qw_9, by decide +kernel, by decide⟩
theorem yo_X9_begin : mx_Y yX9_begin cX9_begin 2 none 0 := ⟨qw_636, qw_7, by decide +kernel, by decide⟩
theorem yo_X9_copyFrom : mx_Y yX9_copyFrom cX9_copyFrom 2 none 1 := ⟨qw_695, qw_7, by decide +kernel, by decide⟩
theorem yo_X9_daysTillMet : mx_Y yX9_daysTillMet cX9_daysTillMet 5 (some .int) 1 := ⟨qw_816, qw_7, by decide +kernel, by decide⟩
theorem yo_X9_draw : mx_Y yX9_draw cX9_draw 2 (some .int) 1 := ⟨qw_1076, qw_7, by decide +kernel, by decide⟩
theorem yo_X9_drawAct : mx_Y yX9_drawAct cX9_drawAct 5 none 1 := ⟨qw_1072, qw_7, by decide +kernel, by decide⟩
theorem yo_X9_drawDays : mx_Y yX9_drawDays cX9_drawDays 5 (some .int) 2 := ⟨qw_1068, qw_7, by decide +kernel, by decide⟩
theorem yo_X9_farBetween : mx_Y yX9_farBetween cX9_farBetween 3 (some .int) 2 := ⟨qw_853, qw_7, by decide +kernel, by decide⟩
theorem yo_X9_farTo : mx_Y yX9_farTo cX9_farTo 4 (some .int) 3 := ⟨qw_704, qw_7, by decide +kernel, by decide⟩
theorem yo_X9_hasRing : mx_Y yX9_hasRing cX9_hasRing 3 (some .boolean) 2 := ⟨qw_1242, qw_7, by decide +kernel, by decide⟩
theorem yo_X9_isBy : mx_Y yX9_isBy cX9_isBy 3 (some .boolean) 2 := ⟨qw_736, qw_7, by decide +kernel, by decide⟩
theorem yo_X9_isKeptBy : mx_Y yX9_isKeptBy cX9_isKeptBy 3 (some .boolean) 2 := ⟨qw_732, qw_7, by decide +kernel, by decide⟩
theorem yo_X9_isWithOwner : mx_Y yX9_isWithOwner cX9_isWithOwner 2 (some .boolean) 1 := ⟨qw_782, qw_7, by decide +kernel, by decide⟩
theorem yo_X9_keptBy : mx_Y yX9_keptBy cX9_keptBy 4 (some .int) 1 := ⟨qw_786, qw_7, by decide +kernel, by decide⟩
theorem yo_X9_loseGreatest : mx_Y yX9_loseGreatest cX9_loseGreatest 4 none 2 := ⟨qw_796, qw_7, by decide +kernel, by decide⟩
theorem yo_X9_passDay : mx_Y yX9_passDay cX9_passDay 3 none 0 := ⟨qw_778, qw_7, by decide +kernel, by decide⟩
theorem yo_X9_passDays : mx_Y yX9_passDays cX9_passDays 3 (some .int) 1 := ⟨qw_774, qw_7, by decide +kernel, by decide⟩
theorem yo_X9_passOn : mx_Y yX9_passOn cX9_passOn 4 (some .int) 3 := ⟨qw_728, qw_7, by decide +kernel, by decide⟩
theorem yo_X9_pickUp : mx_Y yX9_pickUp cX9_pickUp 3 (some .int) 2 := ⟨qw_766, qw_7, by decide +kernel, by decide⟩
theorem yo_X9_putOn : mx_Y yX9_putOn cX9_putOn 3 (some .int) 2 := ⟨qw_745, qw_7, by decide +kernel, by decide⟩
theorem yo_X9_rest : mx_Y yX9_rest cX9_rest 2 none 0 := ⟨qw_640, qw_7, by decide +kernel, by decide⟩
theorem yo_X9_ringX : mx_Y yX9_ringX cX9_ringX 3 (some .int) 1 := ⟨qw_820, qw_7, by decide +kernel, by decide⟩
theorem yo_X9_ringY : mx_Y yX9_ringY cX9_ringY 3 (some .int) 1 := ⟨qw_824, qw_7, by decide +kernel, by decide⟩
theorem yo_X9_ringsThatAre : mx_Y yX9_ringsThatAre cX9_ringsThatAre 2 (some .int) 1 := ⟨qw_676, qw_7, by decide +kernel, by decide⟩
theorem yo_X9_ringsThatWere : mx_Y yX9_ringsThatWere cX9_ringsThatWere 2 (some .int) 1 := ⟨qw_684, qw_7, by decide +kernel, by decide⟩
theorem yo_X9_ringsWith : mx_Y yX9_ringsWith cX9_ringsWith 5 (some .int) 2 := ⟨qw_680, qw_7, by decide +kernel, by decide⟩
theorem yo_X9_takeOff : mx_Y yX9_takeOff cX9_takeOff 3 (some .int) 1 := ⟨qw_758, qw_7, by decide +kernel, by decide⟩
theorem yo_X9_walkTo : mx_Y yX9_walkTo cX9_walkTo 5 (some .int) 3 := ⟨qw_700, qw_7, by decide +kernel, by decide⟩
theorem yo_X9_wornBy : mx_Y yX9_wornBy cX9_wornBy 3 (some .int) 1 := ⟨qw_749, qw_7, by decide +kernel, by decide⟩
