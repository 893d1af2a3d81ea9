/-! RingKeepers: its constructor -/
theorem qw_30 : (Jvm.Cond.instanceMethod ({ cls := "RingKeepers", name := "<init>", desc := "()V" } : Jvm.MethodName)) ∈ mx_wall := mx_w 214 (by decide +kernel) (by decide +kernel)
theorem qw_31 : (Jvm.Cond.code ({ cls := "RingKeepers", name := "<init>", desc := "()V" } : Jvm.MethodName) prog_1_method_1_code (2 : Nat) (Option.none : Option Jvm.ClassFile.FieldType)) ∈ mx_wall := mx_w 215 (by decide +kernel) (by decide +kernel)
theorem yo_X12_init : mx_Y yX12_init cX12_init 2 none 0 := ⟨qw_31, qw_1, by decide +kernel, by decide⟩
theorem dX12_init_0 : decode cX12_init 0 = .ok (.aload_n 0, 1) := by decide +kernel
theorem dX12_init_1 : decode cX12_init 1 = .ok (.invokespecial 1, 3) := by decide +kernel
theorem dX12_init_4 : decode cX12_init 4 = .ok (.aload_n 0, 1) := by decide +kernel
theorem dX12_init_5 : decode cX12_init 5 = .ok (.new 7, 3) := by decide +kernel
theorem dX12_init_8 : decode cX12_init 8 = .ok (.dup, 1) := by decide +kernel
theorem dX12_init_9 : decode cX12_init 9 = .ok (.invokespecial 9, 3) := by decide +kernel
theorem dX12_init_12 : decode cX12_init 12 = .ok (.putfield 10, 3) := by decide +kernel
theorem dX12_init_15 : decode cX12_init 15 = .ok (.aload_n 0, 1) := by decide +kernel
theorem dX12_init_16 : decode cX12_init 16 = .ok (.new 16, 3) := by decide +kernel
theorem dX12_init_19 : decode cX12_init 19 = .ok (.dup, 1) := by decide +kernel
theorem dX12_init_20 : decode cX12_init 20 = .ok (.aload_n 0, 1) := by decide +kernel
theorem dX12_init_21 : decode cX12_init 21 = .ok (.getfield 10, 3) := by decide +kernel
theorem dX12_init_24 : decode cX12_init 24 = .ok (.invokespecial 18, 3) := by decide +kernel
theorem dX12_init_27 : decode cX12_init 27 = .ok (.putfield 21, 3) := by decide +kernel
theorem dX12_init_30 : decode cX12_init 30 = .ok (.aload_n 0, 1) := by decide +kernel
theorem dX12_init_31 : decode cX12_init 31 = .ok (.new 25, 3) := by decide +kernel
theorem dX12_init_34 : decode cX12_init 34 = .ok (.dup, 1) := by decide +kernel
theorem dX12_init_35 : decode cX12_init 35 = .ok (.invokespecial 27, 3) := by decide +kernel
theorem dX12_init_38 : decode cX12_init 38 = .ok (.putfield 28, 3) := by decide +kernel
theorem dX12_init_41 : decode cX12_init 41 = .ok (.aload_n 0, 1) := by decide +kernel
theorem dX12_init_42 : decode cX12_init 42 = .ok (.new 25, 3) := by decide +kernel
theorem dX12_init_45 : decode cX12_init 45 = .ok (.dup, 1) := by decide +kernel
theorem dX12_init_46 : decode cX12_init 46 = .ok (.invokespecial 27, 3) := by decide +kernel
theorem dX12_init_49 : decode cX12_init 49 = .ok (.putfield 32, 3) := by decide +kernel
theorem dX12_init_52 : decode cX12_init 52 = .ok (.aload_n 0, 1) := by decide +kernel
theorem dX12_init_53 : decode cX12_init 53 = .ok (.new 35, 3) := by decide +kernel
theorem dX12_init_56 : decode cX12_init 56 = .ok (.dup, 1) := by decide +kernel
theorem dX12_init_57 : decode cX12_init 57 = .ok (.aload_n 0, 1) := by decide +kernel
theorem dX12_init_58 : decode cX12_init 58 = .ok (.getfield 28, 3) := by decide +kernel
theorem dX12_init_61 : decode cX12_init 61 = .ok (.invokespecial 37, 3) := by decide +kernel
theorem dX12_init_64 : decode cX12_init 64 = .ok (.putfield 40, 3) := by decide +kernel
theorem dX12_init_67 : decode cX12_init 67 = .ok (.aload_n 0, 1) := by decide +kernel
theorem dX12_init_68 : decode cX12_init 68 = .ok (.new 35, 3) := by decide +kernel
theorem dX12_init_71 : decode cX12_init 71 = .ok (.dup, 1) := by decide +kernel
theorem dX12_init_72 : decode cX12_init 72 = .ok (.aload_n 0, 1) := by decide +kernel
theorem dX12_init_73 : decode cX12_init 73 = .ok (.getfield 28, 3) := by decide +kernel
theorem dX12_init_76 : decode cX12_init 76 = .ok (.invokespecial 37, 3) := by decide +kernel
theorem dX12_init_79 : decode cX12_init 79 = .ok (.putfield 44, 3) := by decide +kernel
theorem dX12_init_82 : decode cX12_init 82 = .ok (.aload_n 0, 1) := by decide +kernel
theorem dX12_init_83 : decode cX12_init 83 = .ok (.new 35, 3) := by decide +kernel
theorem dX12_init_86 : decode cX12_init 86 = .ok (.dup, 1) := by decide +kernel
theorem dX12_init_87 : decode cX12_init 87 = .ok (.aload_n 0, 1) := by decide +kernel
theorem dX12_init_88 : decode cX12_init 88 = .ok (.getfield 28, 3) := by decide +kernel
theorem dX12_init_91 : decode cX12_init 91 = .ok (.invokespecial 37, 3) := by decide +kernel
theorem dX12_init_94 : decode cX12_init 94 = .ok (.putfield 47, 3) := by decide +kernel
theorem dX12_init_97 : decode cX12_init 97 = .ok (.aload_n 0, 1) := by decide +kernel
theorem dX12_init_98 : decode cX12_init 98 = .ok (.new 50, 3) := by decide +kernel
theorem dX12_init_101 : decode cX12_init 101 = .ok (.dup, 1) := by decide +kernel
theorem dX12_init_102 : decode cX12_init 102 = .ok (.aload_n 0, 1) := by decide +kernel
theorem dX12_init_103 : decode cX12_init 103 = .ok (.getfield 28, 3) := by decide +kernel
theorem dX12_init_106 : decode cX12_init 106 = .ok (.invokespecial 52, 3) := by decide +kernel
theorem dX12_init_109 : decode cX12_init 109 = .ok (.putfield 53, 3) := by decide +kernel
theorem dX12_init_112 : decode cX12_init 112 = .ok (.aload_n 0, 1) := by decide +kernel
theorem dX12_init_113 : decode cX12_init 113 = .ok (.new 57, 3) := by decide +kernel
theorem dX12_init_116 : decode cX12_init 116 = .ok (.dup, 1) := by decide +kernel
theorem dX12_init_117 : decode cX12_init 117 = .ok (.invokespecial 59, 3) := by decide +kernel
theorem dX12_init_120 : decode cX12_init 120 = .ok (.putfield 60, 3) := by decide +kernel
theorem dX12_init_123 : decode cX12_init 123 = .ok (.aload_n 0, 1) := by decide +kernel
theorem dX12_init_124 : decode cX12_init 124 = .ok (.new 57, 3) := by decide +kernel
theorem dX12_init_127 : decode cX12_init 127 = .ok (.dup, 1) := by decide +kernel
theorem dX12_init_128 : decode cX12_init 128 = .ok (.invokespecial 59, 3) := by decide +kernel
theorem dX12_init_131 : decode cX12_init 131 = .ok (.putfield 64, 3) := by decide +kernel
theorem dX12_init_134 : decode cX12_init 134 = .ok (.aload_n 0, 1) := by decide +kernel
theorem dX12_init_135 : decode cX12_init 135 = .ok (.new 67, 3) := by decide +kernel
theorem dX12_init_138 : decode cX12_init 138 = .ok (.dup, 1) := by decide +kernel
theorem dX12_init_139 : decode cX12_init 139 = .ok (.invokespecial 69, 3) := by decide +kernel
theorem dX12_init_142 : decode cX12_init 142 = .ok (.putfield 70, 3) := by decide +kernel
theorem dX12_init_145 : decode cX12_init 145 = .ok (.aload_n 0, 1) := by decide +kernel
theorem dX12_init_146 : decode cX12_init 146 = .ok (.new 74, 3) := by decide +kernel
theorem dX12_init_149 : decode cX12_init 149 = .ok (.dup, 1) := by decide +kernel
theorem dX12_init_150 : decode cX12_init 150 = .ok (.invokespecial 76, 3) := by decide +kernel
theorem dX12_init_153 : decode cX12_init 153 = .ok (.putfield 77, 3) := by decide +kernel
theorem dX12_init_156 : decode cX12_init 156 = .ok (.aload_n 0, 1) := by decide +kernel
theorem dX12_init_157 : decode cX12_init 157 = .ok (.new 81, 3) := by decide +kernel
theorem dX12_init_160 : decode cX12_init 160 = .ok (.dup, 1) := by decide +kernel
theorem dX12_init_161 : decode cX12_init 161 = .ok (.invokespecial 83, 3) := by decide +kernel
theorem dX12_init_164 : decode cX12_init 164 = .ok (.putfield 84, 3) := by decide +kernel
theorem dX12_init_167 : decode cX12_init 167 = .ok (.aload_n 0, 1) := by decide +kernel
theorem dX12_init_168 : decode cX12_init 168 = .ok (.new 88, 3) := by decide +kernel
theorem dX12_init_171 : decode cX12_init 171 = .ok (.dup, 1) := by decide +kernel
theorem dX12_init_172 : decode cX12_init 172 = .ok (.invokespecial 90, 3) := by decide +kernel
theorem dX12_init_175 : decode cX12_init 175 = .ok (.putfield 91, 3) := by decide +kernel
theorem dX12_init_178 : decode cX12_init 178 = .ok (.aload_n 0, 1) := by decide +kernel
theorem dX12_init_179 : decode cX12_init 179 = .ok (.iconst 2, 1) := by decide +kernel
theorem dX12_init_180 : decode cX12_init 180 = .ok (.anewarray 25, 3) := by decide +kernel
theorem dX12_init_183 : decode cX12_init 183 = .ok (.putfield 95, 3) := by decide +kernel
theorem dX12_init_186 : decode cX12_init 186 = .ok (.aload_n 0, 1) := by decide +kernel
theorem dX12_init_187 : decode cX12_init 187 = .ok (.iconst 2, 1) := by decide +kernel
theorem dX12_init_188 : decode cX12_init 188 = .ok (.anewarray 35, 3) := by decide +kernel
theorem dX12_init_191 : decode cX12_init 191 = .ok (.putfield 99, 3) := by decide +kernel
theorem dX12_init_194 : decode cX12_init 194 = .ok (.aload_n 0, 1) := by decide +kernel
theorem dX12_init_195 : decode cX12_init 195 = .ok (.iconst 2, 1) := by decide +kernel
theorem dX12_init_196 : decode cX12_init 196 = .ok (.anewarray 57, 3) := by decide +kernel
theorem dX12_init_199 : decode cX12_init 199 = .ok (.putfield 103, 3) := by decide +kernel
theorem dX12_init_202 : decode cX12_init 202 = .ok (.aload_n 0, 1) := by decide +kernel
theorem dX12_init_203 : decode cX12_init 203 = .ok (.iconst 2, 1) := by decide +kernel
theorem dX12_init_204 : decode cX12_init 204 = .ok (.newarray .boolean, 2) := by decide +kernel
theorem dX12_init_206 : decode cX12_init 206 = .ok (.putfield 107, 3) := by decide +kernel
theorem dX12_init_209 : decode cX12_init 209 = .ok (.iconst 0, 1) := by decide +kernel
theorem dX12_init_210 : decode cX12_init 210 = .ok (.istore_n 1, 1) := by decide +kernel
theorem dX12_init_211 : decode cX12_init 211 = .ok (.iload_n 1, 1) := by decide +kernel
theorem dX12_init_212 : decode cX12_init 212 = .ok (.iconst 2, 1) := by decide +kernel
theorem dX12_init_213 : decode cX12_init 213 = .ok (.if_icmp .ge 52, 3) := by decide +kernel
theorem dX12_init_216 : decode cX12_init 216 = .ok (.aload_n 0, 1) := by decide +kernel
theorem dX12_init_217 : decode cX12_init 217 = .ok (.getfield 95, 3) := by decide +kernel
theorem dX12_init_220 : decode cX12_init 220 = .ok (.iload_n 1, 1) := by decide +kernel
theorem dX12_init_221 : decode cX12_init 221 = .ok (.new 25, 3) := by decide +kernel
theorem dX12_init_224 : decode cX12_init 224 = .ok (.dup, 1) := by decide +kernel
theorem dX12_init_225 : decode cX12_init 225 = .ok (.invokespecial 27, 3) := by decide +kernel
theorem dX12_init_228 : decode cX12_init 228 = .ok (.aastore, 1) := by decide +kernel
theorem dX12_init_229 : decode cX12_init 229 = .ok (.aload_n 0, 1) := by decide +kernel
theorem dX12_init_230 : decode cX12_init 230 = .ok (.getfield 99, 3) := by decide +kernel
theorem dX12_init_233 : decode cX12_init 233 = .ok (.iload_n 1, 1) := by decide +kernel
theorem dX12_init_234 : decode cX12_init 234 = .ok (.new 35, 3) := by decide +kernel
theorem dX12_init_237 : decode cX12_init 237 = .ok (.dup, 1) := by decide +kernel
theorem dX12_init_238 : decode cX12_init 238 = .ok (.aload_n 0, 1) := by decide +kernel
theorem dX12_init_239 : decode cX12_init 239 = .ok (.getfield 28, 3) := by decide +kernel
theorem dX12_init_242 : decode cX12_init 242 = .ok (.invokespecial 37, 3) := by decide +kernel
theorem dX12_init_245 : decode cX12_init 245 = .ok (.aastore, 1) := by decide +kernel
theorem dX12_init_246 : decode cX12_init 246 = .ok (.aload_n 0, 1) := by decide +kernel
theorem dX12_init_247 : decode cX12_init 247 = .ok (.getfield 103, 3) := by decide +kernel
theorem dX12_init_250 : decode cX12_init 250 = .ok (.iload_n 1, 1) := by decide +kernel
theorem dX12_init_251 : decode cX12_init 251 = .ok (.new 57, 3) := by decide +kernel
theorem dX12_init_254 : decode cX12_init 254 = .ok (.dup, 1) := by decide +kernel
theorem dX12_init_255 : decode cX12_init 255 = .ok (.invokespecial 59, 3) := by decide +kernel
theorem dX12_init_258 : decode cX12_init 258 = .ok (.aastore, 1) := by decide +kernel
theorem dX12_init_259 : decode cX12_init 259 = .ok (.iinc 1 1, 3) := by decide +kernel
theorem dX12_init_262 : decode cX12_init 262 = .ok (.goto (-51), 3) := by decide +kernel
theorem dX12_init_265 : decode cX12_init 265 = .ok (.return_, 1) := by decide +kernel
theorem nc_37 {X : XE} {s : State} (h : cw_g X s) : va_Nw (Jvm.Cond.methodLinkNest "RingKeepers" (9 : Nat) ({ cls := "RingKeepers$Tape", name := "<init>", desc := "()V" } : Jvm.MethodName) "RingKeepers") s := h.1.2.2.2.2.1 _ (List.mem_filter.mpr ⟨List.mem_of_getElem? (i := 221) (by decide +kernel), rfl⟩)
theorem nc_54 {X : XE} {s : State} (h : cw_g X s) : va_Nw (Jvm.Cond.methodLinkNest "RingKeepers" (18 : Nat) ({ cls := "RingKeepers$Reader", name := "<init>", desc := "(LRingKeepers$Tape;)V" } : Jvm.MethodName) "RingKeepers") s := h.1.2.2.2.2.1 _ (List.mem_filter.mpr ⟨List.mem_of_getElem? (i := 238) (by decide +kernel), rfl⟩)
theorem nc_108 {X : XE} {s : State} (h : cw_g X s) : va_Nw (Jvm.Cond.methodLinkNest "RingKeepers" (27 : Nat) ({ cls := "RingKeepers$Island", name := "<init>", desc := "()V" } : Jvm.MethodName) "RingKeepers") s := h.1.2.2.2.2.1 _ (List.mem_filter.mpr ⟨List.mem_of_getElem? (i := 292) (by decide +kernel), rfl⟩)
theorem nc_200 {X : XE} {s : State} (h : cw_g X s) : va_Nw (Jvm.Cond.methodLinkNest "RingKeepers" (37 : Nat) ({ cls := "RingKeepers$State", name := "<init>", desc := "(LRingKeepers$Island;)V" } : Jvm.MethodName) "RingKeepers") s := h.1.2.2.2.2.1 _ (List.mem_filter.mpr ⟨List.mem_of_getElem? (i := 384) (by decide +kernel), rfl⟩)
theorem nc_262 {X : XE} {s : State} (h : cw_g X s) : va_Nw (Jvm.Cond.methodLinkNest "RingKeepers" (52 : Nat) ({ cls := "RingKeepers$Past", name := "<init>", desc := "(LRingKeepers$Island;)V" } : Jvm.MethodName) "RingKeepers") s := h.1.2.2.2.2.1 _ (List.mem_filter.mpr ⟨List.mem_of_getElem? (i := 446) (by decide +kernel), rfl⟩)
theorem nc_279 {X : XE} {s : State} (h : cw_g X s) : va_Nw (Jvm.Cond.methodLinkNest "RingKeepers" (59 : Nat) ({ cls := "RingKeepers$Sentence", name := "<init>", desc := "()V" } : Jvm.MethodName) "RingKeepers") s := h.1.2.2.2.2.1 _ (List.mem_filter.mpr ⟨List.mem_of_getElem? (i := 463) (by decide +kernel), rfl⟩)
theorem nc_304 {X : XE} {s : State} (h : cw_g X s) : va_Nw (Jvm.Cond.methodLinkNest "RingKeepers" (69 : Nat) ({ cls := "RingKeepers$Book", name := "<init>", desc := "()V" } : Jvm.MethodName) "RingKeepers") s := h.1.2.2.2.2.1 _ (List.mem_filter.mpr ⟨List.mem_of_getElem? (i := 488) (by decide +kernel), rfl⟩)
theorem nc_346 {X : XE} {s : State} (h : cw_g X s) : va_Nw (Jvm.Cond.methodLinkNest "RingKeepers" (76 : Nat) ({ cls := "RingKeepers$Plans", name := "<init>", desc := "()V" } : Jvm.MethodName) "RingKeepers") s := h.1.2.2.2.2.1 _ (List.mem_filter.mpr ⟨List.mem_of_getElem? (i := 530) (by decide +kernel), rfl⟩)
theorem nc_378 {X : XE} {s : State} (h : cw_g X s) : va_Nw (Jvm.Cond.methodLinkNest "RingKeepers" (83 : Nat) ({ cls := "RingKeepers$Fitting", name := "<init>", desc := "()V" } : Jvm.MethodName) "RingKeepers") s := h.1.2.2.2.2.1 _ (List.mem_filter.mpr ⟨List.mem_of_getElem? (i := 562) (by decide +kernel), rfl⟩)
theorem nc_399 {X : XE} {s : State} (h : cw_g X s) : va_Nw (Jvm.Cond.methodLinkNest "RingKeepers" (90 : Nat) ({ cls := "RingKeepers$Note", name := "<init>", desc := "()V" } : Jvm.MethodName) "RingKeepers") s := h.1.2.2.2.2.1 _ (List.mem_filter.mpr ⟨List.mem_of_getElem? (i := 583) (by decide +kernel), rfl⟩)
def cnDec : DecidableEq CN := fun a b => match a, b with
  | .inl x, .inl y => if h : x = y then isTrue (by rw [h]) else isFalse (fun q => h (Sum.inl.inj q))
  | .inr x, .inr y => if h : x = y then isTrue (by rw [h]) else isFalse (fun q => h (Sum.inr.inj q))
  | .inl _, .inr _ => isFalse (fun q => by cases q)
  | .inr _, .inl _ => isFalse (fun q => by cases q)
def cnL (a b : List CN) : Bool := match a, b with
  | [], [] => true
  | x :: a, y :: b => (@decide (x = y) (cnDec x y)) && cnL a b
  | _, _ => false
theorem cn_eq : ∀ {a b : List CN}, cnL a b = true → a = b
  | [], [], _ => rfl
  | [], _ :: _, h => by simp [cnL] at h
  | _ :: _, [], h => by simp [cnL] at h
  | x :: a, y :: b, h => by
    rw [cnL, Bool.and_eq_true] at h
    have h1 : x = y := @of_decide_eq_true (x = y) (cnDec x y) h.1
    rw [h1, cn_eq h.2]
def cnO (a b : Option CN) : Bool := match a, b with
  | some x, some y => @decide (x = y) (cnDec x y)
  | _, _ => false
theorem cn_op {a b : Option CN} (h : cnO a b = true) : a = b := by
  cases a with
  | none => simp [cnO] at h
  | some x =>
    cases b with
    | none => simp [cnO] at h
    | some y => rw [@of_decide_eq_true (x = y) (cnDec x y) h]
def xr (a b c : Nat) : List CN := [.inl (10, [(2, 2, 0), (0, 0, 0)]), .inr (1, 940, 0, 0, 0, 0), .inl (7, [(2, 1, 0), (2, 4, 0), (2, 5, 0), (2, 6, 0), (2, 7, 0), (2, 8, 0), (0, 0, 0), (0, 0, 0), (0, 0, 0), (0, 0, 0), (0, 0, 0), (0, 0, 0)]), .inr (0, 941, 0, 0, 0, 0), .inr (0, 941, 0, 0, 0, 0), .inr (0, 941, 0, 0, 0, 0), .inr (2, 941, 0, 0, 0, 0), .inr (7, 941, 941, 0, 0, 0), .inl (3, [(0, 0, 0), (0, 0, 0), (2, 10, 0), (2, 11, 0), (2, 12, 0), (2, 13, 0), (2, 14, 0), (2, 15, 0), (2, 16, 0), (2, 17, 0), (2, 18, 0), (0, 0, (nI 1)), (0, 0, (nI 5)), (0, 0, (nI 4)), (0, 0, 0), (0, 0, 0), (0, 0, 0), (0, 0, 0)]), .inr (2, 7, 0, 0, 0, 0), .inr (0, 7, 0, 0, 0, 0), .inr (0, 7, 0, 0, 0, 0), .inr (0, 7, 0, 0, 0, 0), .inr (2, 7, 0, 0, 0, 0), .inr (0, 7, 0, 0, 0, 0), .inr (0, 7, 0, 0, 0, 0), .inr (0, 7, 0, 0, 0, 0), .inr (0, 7, 0, 0, 0, 0), .inl (3, [(0, 0, 0), (0, 0, 0), (2, 20, 0), (2, 21, 0), (2, 22, 0), (2, 23, 0), (2, 24, 0), (2, 25, 0), (2, 26, 0), (2, 27, 0), (2, 28, 0), (0, 0, (nI 1)), (0, 0, (nI 5)), (0, 0, (nI 4)), (0, 0, 0), (0, 0, 0), (0, 0, 0), (0, 0, 0)]), .inr (2, 7, 0, 0, 0, 0), .inr (0, 7, 0, 0, 0, 0), .inr (0, 7, 0, 0, 0, 0), .inr (0, 7, 0, 0, 0, 0), .inr (2, 7, 0, 0, 0, 0), .inr (0, 7, 0, 0, 0, 0), .inr (0, 7, 0, 0, 0, 0), .inr (0, 7, 0, 0, 0, 0), .inr (0, 7, 0, 0, 0, 0), .inl (9, [(2, 9, 0), (2, 30, 0), (2, 31, 0), (2, 32, 0), (2, 33, 0), (2, 34, 0), (2, 35, 0), (2, 36, 0), (2, 37, 0), (0, 0, 0), (0, 0, 0), (0, 0, 0), (0, 0, 0)]), .inr (0, 7, 0, 0, 0, 0), .inr (0, 7, 0, 0, 0, 0), .inr (0, 7, 0, 0, 0, 0), .inr (0, 7, 0, 0, 0, 0), .inr (0, 7, 0, 0, 0, 0), .inr (0, 7, 0, 0, 0, 0), .inr (0, 7, 0, 0, 0, 0), .inr (0, 7, 0, 0, 0, 0), .inl (9, [(2, 9, 0), (2, 39, 0), (2, 40, 0), (2, 41, 0), (2, 42, 0), (2, 43, 0), (2, 44, 0), (2, 45, 0), (2, 46, 0), (0, 0, 0), (0, 0, 0), (0, 0, 0), (0, 0, 0)]), .inr (0, 7, 0, 0, 0, 0), .inr (0, 7, 0, 0, 0, 0), .inr (0, 7, 0, 0, 0, 0), .inr (0, 7, 0, 0, 0, 0), .inr (0, 7, 0, 0, 0, 0), .inr (0, 7, 0, 0, 0, 0), .inr (0, 7, 0, 0, 0, 0), .inr (0, 7, 0, 0, 0, 0), .inl (9, [(2, 9, 0), (2, 48, 0), (2, 49, 0), (2, 50, 0), (2, 51, 0), (2, 52, 0), (2, 53, 0), (2, 54, 0), (2, 55, 0), (0, 0, 0), (0, 0, 0), (0, 0, 0), (0, 0, 0)]), .inr (0, 7, 0, 0, 0, 0), .inr (0, 7, 0, 0, 0, 0), .inr (0, 7, 0, 0, 0, 0), .inr (0, 7, 0, 0, 0, 0), .inr (0, 7, 0, 0, 0, 0), .inr (0, 7, 0, 0, 0, 0), .inr (0, 7, 0, 0, 0, 0), .inr (0, 7, 0, 0, 0, 0), .inl (5, [(2, 57, 0), (0, 0, 0)]), .inr (4, 8, 8, 58, 9, 0), .inl (9, [(2, 9, 0), (2, 59, 0), (2, 60, 0), (2, 61, 0), (2, 62, 0), (2, 63, 0), (2, 64, 0), (2, 65, 0), (2, 66, 0), (0, 0, 0), (0, 0, 0), (0, 0, 0), (0, 0, 0)]), .inr (0, 7, 0, 0, 0, 0), .inr (0, 7, 0, 0, 0, 0), .inr (0, 7, 0, 0, 0, 0), .inr (0, 7, 0, 0, 0, 0), .inr (0, 7, 0, 0, 0, 0), .inr (0, 7, 0, 0, 0, 0), .inr (0, 7, 0, 0, 0, 0), .inr (0, 7, 0, 0, 0, 0), .inl (9, [(2, 9, 0), (2, 68, 0), (2, 69, 0), (2, 70, 0), (2, 71, 0), (2, 72, 0), (2, 73, 0), (2, 74, 0), (2, 75, 0), (0, 0, 0), (0, 0, 0), (0, 0, 0), (0, 0, 0)]), .inr (0, 7, 0, 0, 0, 0), .inr (0, 7, 0, 0, 0, 0), .inr (0, 7, 0, 0, 0, 0), .inr (0, 7, 0, 0, 0, 0), .inr (0, 7, 0, 0, 0, 0), .inr (0, 7, 0, 0, 0, 0), .inr (0, 7, 0, 0, 0, 0), .inr (0, 7, 0, 0, 0, 0), .inl (9, [(2, 9, 0), (2, 77, 0), (2, 78, 0), (2, 79, 0), (2, 80, 0), (2, 81, 0), (2, 82, 0), (2, 83, 0), (2, 84, 0), (0, 0, 0), (0, 0, 0), (0, 0, 0), (0, 0, 0)]), .inr (0, 7, 0, 0, 0, 0), .inr (0, 7, 0, 0, 0, 0), .inr (0, 7, 0, 0, 0, 0), .inr (0, 7, 0, 0, 0, 0), .inr (0, 7, 0, 0, 0, 0), .inr (0, 7, 0, 0, 0, 0), .inr (0, 7, 0, 0, 0, 0), .inr (0, 7, 0, 0, 0, 0), .inl (9, [(2, 9, 0), (2, 86, 0), (2, 87, 0), (2, 88, 0), (2, 89, 0), (2, 90, 0), (2, 91, 0), (2, 92, 0), (2, 93, 0), (0, 0, 0), (0, 0, 0), (0, 0, 0), (0, 0, 0)]), .inr (0, 7, 0, 0, 0, 0), .inr (0, 7, 0, 0, 0, 0), .inr (0, 7, 0, 0, 0, 0), .inr (0, 7, 0, 0, 0, 0), .inr (0, 7, 0, 0, 0, 0), .inr (0, 7, 0, 0, 0, 0), .inr (0, 7, 0, 0, 0, 0), .inr (0, 7, 0, 0, 0, 0), .inl (9, [(2, 9, 0), (2, 95, 0), (2, 96, 0), (2, 97, 0), (2, 98, 0), (2, 99, 0), (2, 100, 0), (2, 101, 0), (2, 102, 0), (0, 0, 0), (0, 0, 0), (0, 0, 0), (0, 0, 0)]), .inr (0, 7, 0, 0, 0, 0), .inr (0, 7, 0, 0, 0, 0), .inr (0, 7, 0, 0, 0, 0), .inr (0, 7, 0, 0, 0, 0), .inr (0, 7, 0, 0, 0, 0), .inr (0, 7, 0, 0, 0, 0), .inr (0, 7, 0, 0, 0, 0), .inr (0, 7, 0, 0, 0, 0), .inl (9, [(2, 9, 0), (2, 104, 0), (2, 105, 0), (2, 106, 0), (2, 107, 0), (2, 108, 0), (2, 109, 0), (2, 110, 0), (2, 111, 0), (0, 0, 0), (0, 0, 0), (0, 0, 0), (0, 0, 0)]), .inr (0, 7, 0, 0, 0, 0), .inr (0, 7, 0, 0, 0, 0), .inr (0, 7, 0, 0, 0, 0), .inr (0, 7, 0, 0, 0, 0), .inr (0, 7, 0, 0, 0, 0), .inr (0, 7, 0, 0, 0, 0), .inr (0, 7, 0, 0, 0, 0), .inr (0, 7, 0, 0, 0, 0), .inl (9, [(2, 9, 0), (2, 113, 0), (2, 114, 0), (2, 115, 0), (2, 116, 0), (2, 117, 0), (2, 118, 0), (2, 119, 0), (2, 120, 0), (0, 0, 0), (0, 0, 0), (0, 0, 0), (0, 0, 0)]), .inr (0, 7, 0, 0, 0, 0), .inr (0, 7, 0, 0, 0, 0), .inr (0, 7, 0, 0, 0, 0), .inr (0, 7, 0, 0, 0, 0), .inr (0, 7, 0, 0, 0, 0), .inr (0, 7, 0, 0, 0, 0), .inr (0, 7, 0, 0, 0, 0), .inr (0, 7, 0, 0, 0, 0), .inl (9, [(2, 9, 0), (2, 122, 0), (2, 123, 0), (2, 124, 0), (2, 125, 0), (2, 126, 0), (2, 127, 0), (2, 128, 0), (2, 129, 0), (0, 0, 0), (0, 0, 0), (0, 0, 0), (0, 0, 0)]), .inr (0, 7, 0, 0, 0, 0), .inr (0, 7, 0, 0, 0, 0), .inr (0, 7, 0, 0, 0, 0), .inr (0, 7, 0, 0, 0, 0), .inr (0, 7, 0, 0, 0, 0), .inr (0, 7, 0, 0, 0, 0), .inr (0, 7, 0, 0, 0, 0), .inr (0, 7, 0, 0, 0, 0), .inl (8, [(2, 131, 0), (2, 132, 0), (2, 133, 0), (0, 0, 0), (0, 0, 0)]), .inr (7, 40, 40, 0, 0, 0), .inr (0, 40, 0, 0, 0, 0), .inr (0, 40, 0, 0, 0, 0), .inl (8, [(2, 135, 0), (2, 136, 0), (2, 137, 0), (0, 0, 0), (0, 0, 0)]), .inr (7, 40, 40, 0, 0, 0), .inr (0, 40, 0, 0, 0, 0), .inr (0, 40, 0, 0, 0, 0), .inl (1, [(2, 139, 0), (2, 140, 0), (2, 141, 0), (2, 142, 0), (0, 0, 0), (0, 0, 0), (0, 0, 0), (0, 0, 0), (0, 0, 0), (0, 0, 0)]), .inr (0, 40, 0, 0, 0, 0), .inr (0, 40, 0, 0, 0, 0), .inr (0, 40, 0, 0, 0, 0), .inr (0, 40, 0, 0, 0, 0), .inl (6, [(2, 144, 0), (0, 0, 0), (2, 145, 0), (0, 0, (-1 : Int32)), (2, 146, 0), (2, 147, 0), (2, 148, 0)]), .inr (0, 7, 0, 0, 0, 0), .inr (0, 7, 7, 0, 0, -1), .inr (0, 896, 0, 0, 0, 0), .inr (0, 128, 0, 0, 0, 0), .inr (0, 7, 0, 0, 0, 0), .inl (2, [(0, 0, (-1 : Int32)), (0, 0, (-1 : Int32)), (2, 150, 0), (2, 151, 0)]), .inr (0, 128, 0, 0, 0, 0), .inr (0, 7, 0, 0, 0, 0), .inl (4, [(2, 153, 0), (0, 0, 0)]), .inr (1, 128, 0, 0, 0, 0), .inr (5, 2, a, 158, 23, 0), .inr (4, 2, b, 168, 23, 0), .inr (6, 2, c, 177, 23, 0), .inr (3, 2, 0, 0, 0, 0), .inl (3, [(0, 0, 0), (0, 0, 0), (2, 159, 0), (2, 160, 0), (2, 161, 0), (2, 162, 0), (2, 163, 0), (2, 164, 0), (2, 165, 0), (2, 166, 0), (2, 167, 0), (0, 0, (nI 1)), (0, 0, (nI 5)), (0, 0, (nI 4)), (0, 0, 0), (0, 0, 0), (0, 0, 0), (0, 0, 0)]), .inr (2, 7, 0, 0, 0, 0), .inr (0, 7, 0, 0, 0, 0), .inr (0, 7, 0, 0, 0, 0), .inr (0, 7, 0, 0, 0, 0), .inr (2, 7, 0, 0, 0, 0), .inr (0, 7, 0, 0, 0, 0), .inr (0, 7, 0, 0, 0, 0), .inr (0, 7, 0, 0, 0, 0), .inr (0, 7, 0, 0, 0, 0), .inl (9, [(2, 9, 0), (2, 169, 0), (2, 170, 0), (2, 171, 0), (2, 172, 0), (2, 173, 0), (2, 174, 0), (2, 175, 0), (2, 176, 0), (0, 0, 0), (0, 0, 0), (0, 0, 0), (0, 0, 0)]), .inr (0, 7, 0, 0, 0, 0), .inr (0, 7, 0, 0, 0, 0), .inr (0, 7, 0, 0, 0, 0), .inr (0, 7, 0, 0, 0, 0), .inr (0, 7, 0, 0, 0, 0), .inr (0, 7, 0, 0, 0, 0), .inr (0, 7, 0, 0, 0, 0), .inr (0, 7, 0, 0, 0, 0), .inl (8, [(2, 178, 0), (2, 179, 0), (2, 180, 0), (0, 0, 0), (0, 0, 0)]), .inr (7, 40, 40, 0, 0, 0), .inr (0, 40, 0, 0, 0, 0), .inr (0, 40, 0, 0, 0, 0), .inl (3, [(0, 0, 0), (0, 0, 0), (2, 182, 0), (2, 183, 0), (2, 184, 0), (2, 185, 0), (2, 186, 0), (2, 187, 0), (2, 188, 0), (2, 189, 0), (2, 190, 0), (0, 0, (nI 1)), (0, 0, (nI 5)), (0, 0, (nI 4)), (0, 0, 0), (0, 0, 0), (0, 0, 0), (0, 0, 0)]), .inr (2, 7, 0, 0, 0, 0), .inr (0, 7, 0, 0, 0, 0), .inr (0, 7, 0, 0, 0, 0), .inr (0, 7, 0, 0, 0, 0), .inr (2, 7, 0, 0, 0, 0), .inr (0, 7, 0, 0, 0, 0), .inr (0, 7, 0, 0, 0, 0), .inr (0, 7, 0, 0, 0, 0), .inr (0, 7, 0, 0, 0, 0), .inl (9, [(2, 9, 0), (2, 192, 0), (2, 193, 0), (2, 194, 0), (2, 195, 0), (2, 196, 0), (2, 197, 0), (2, 198, 0), (2, 199, 0), (0, 0, 0), (0, 0, 0), (0, 0, 0), (0, 0, 0)]), .inr (0, 7, 0, 0, 0, 0), .inr (0, 7, 0, 0, 0, 0), .inr (0, 7, 0, 0, 0, 0), .inr (0, 7, 0, 0, 0, 0), .inr (0, 7, 0, 0, 0, 0), .inr (0, 7, 0, 0, 0, 0), .inr (0, 7, 0, 0, 0, 0), .inr (0, 7, 0, 0, 0, 0), .inl (8, [(2, 201, 0), (2, 202, 0), (2, 203, 0), (0, 0, 0), (0, 0, 0)]), .inr (7, 40, 40, 0, 0, 0), .inr (0, 40, 0, 0, 0, 0), .inr (0, 40, 0, 0, 0, 0)]
def x12 (a b c : Nat) : List CN := .inl (12, [(2, 1, 0), (2, 3, 0), (2, 9, 0), (2, 19, 0), (2, 29, 0), (2, 38, 0), (2, 47, 0), (2, 56, 0), (2, 130, 0), (2, 134, 0), (2, 138, 0), (2, 143, 0), (2, 149, 0), (2, 152, 0), (2, 154, 0), (2, 155, 0), (2, 156, 0), (2, 157, 0), (0, 0, 0)]) :: xr a b c
set_option maxRecDepth 100000 in
set_option maxHeartbeats 4000000 in
theorem kX12_init {X : XE} {l : Launch} (hX : cw_ok X (cw_g X)) : cw_Met X (cw_g X) l yX12_init cX12_init 2 3 203 8889 [.ref (X.2.1 0)] [.inl (12, [(3, 0, 0), (3, 0, 0), (3, 0, 0), (3, 0, 0), (3, 0, 0), (3, 0, 0), (3, 0, 0), (3, 0, 0), (3, 0, 0), (3, 0, 0), (3, 0, 0), (3, 0, 0), (3, 0, 0), (3, 0, 0), (3, 0, 0), (3, 0, 0), (3, 0, 0), (3, 0, 0), (0, 0, 0)])] (x12 2 2 2) := by
  have ha : 0 < ([.inl (12, [(3, 0, 0), (3, 0, 0), (3, 0, 0), (3, 0, 0), (3, 0, 0), (3, 0, 0), (3, 0, 0), (3, 0, 0), (3, 0, 0), (3, 0, 0), (3, 0, 0), (3, 0, 0), (3, 0, 0), (3, 0, 0), (3, 0, 0), (3, 0, 0), (3, 0, 0), (3, 0, 0), (0, 0, 0)])] : List CN).length := by decide
  refine cw_enter hX (by decide) (Nat.le_of_ble_eq_true rfl) rfl (by decide) ?_
  intro p e s m below meth c C hM ls hl
  have hx := C.1.1
  have hb := C.1.2.1
  have hl : lv_has ls 2 [(0, .ref (X.2.1 0))] := hl
  replace hM : cw_H X s (([.inl (12, [(3, 0, 0), (3, 0, 0), (3, 0, 0), (3, 0, 0), (3, 0, 0), (3, 0, 0), (3, 0, 0), (3, 0, 0), (3, 0, 0), (3, 0, 0), (3, 0, 0), (3, 0, 0), (3, 0, 0), (3, 0, 0), (3, 0, 0), (3, 0, 0), (3, 0, 0), (3, 0, 0), (0, 0, 0)])] : List CN).set 0 (.inl (12, [(3, 0, 0), (3, 0, 0), (3, 0, 0), (3, 0, 0), (3, 0, 0), (3, 0, 0), (3, 0, 0), (3, 0, 0), (3, 0, 0), (3, 0, 0), (3, 0, 0), (3, 0, 0), (3, 0, 0), (3, 0, 0), (3, 0, 0), (3, 0, 0), (3, 0, 0), (3, 0, 0), (0, 0, 0)])) ++ ((xr 0 0 0).take 0)) s.heap [] 0 := hM
  refine lv_aload_n hx hb dX12_init_0 rfl (lv_at hl 0 rfl) ?_
  refine cw_oi C hl.1 qw_32 qoi_1 qoi_2 (by decide) dX12_init_1 rfl ?_
  refine lv_aload_n hx hb dX12_init_4 rfl (lv_at hl 0 rfl) ?_
  refine cw_new C hM cl_10 (fs := [(3, 0, 0), (0, 0, 0)]) bl_10 qw_35 qw_36 qw_2 (a1 := 1) (Nat.le_of_ble_eq_true rfl) (Nat.le_of_ble_eq_true rfl) (by decide +kernel) dX12_init_5 rfl (fun H hM => ?_)
  refine lv_dup hx hb dX12_init_8 rfl ?_
  refine cw_call (y := yX10_init) (As := []) C hM hl.1 yo_X10_init rfl (by decide) (nc_37 C.2.2.1) qw_38 (kX10_initN hX 1 2 (by decide +kernel) (cw_last (by decide +kernel))) (cw_len2 rfl) rfl rfl (Nat.le_of_ble_eq_true rfl) dX12_init_9 ⟨Nat.le_of_ble_eq_true rfl, Nat.le_of_ble_eq_true rfl⟩ rfl (fun H locs hM => ?_)
  rw [cw_setlast (by decide +kernel), List.append_assoc, show ((xr 0 0 0).take 0) ++ _ = ((xr 0 0 0).take 2) from cn_eq (by decide +kernel)] at hM
  refine cn_put C ha hM cl_12 (j := 0) (f := (2, 1, 0)) (fs' := [(2, 1, 0), (3, 0, 0), (3, 0, 0), (3, 0, 0), (3, 0, 0), (3, 0, 0), (3, 0, 0), (3, 0, 0), (3, 0, 0), (3, 0, 0), (3, 0, 0), (3, 0, 0), (3, 0, 0), (3, 0, 0), (3, 0, 0), (3, 0, 0), (3, 0, 0), (3, 0, 0), (0, 0, 0)]) (by decide) qw_414 rfl rfl rfl rfl (Nat.le_of_ble_eq_true rfl) rfl dX12_init_12 rfl (fun H locs hM => ?_)
  refine lv_aload_n hx hb dX12_init_15 rfl (lv_at hl 0 rfl) ?_
  refine cw_new C hM cl_7 (fs := [(3, 0, 0), (3, 0, 0), (3, 0, 0), (3, 0, 0), (3, 0, 0), (3, 0, 0), (0, 0, 0), (0, 0, 0), (0, 0, 0), (0, 0, 0), (0, 0, 0), (0, 0, 0)]) bl_7 qw_52 qw_53 qw_3 (a1 := 3) (Nat.le_of_ble_eq_true rfl) (Nat.le_of_ble_eq_true rfl) (by decide +kernel) dX12_init_16 rfl (fun H hM => ?_)
  refine lv_dup hx hb dX12_init_19 rfl ?_
  refine lv_aload_n hx hb dX12_init_20 rfl (lv_at hl 0 rfl) ?_
  refine cw_get C hM cl_12 (k := 0) (j := 0) (fs := [(2, 1, 0), (3, 0, 0), (3, 0, 0), (3, 0, 0), (3, 0, 0), (3, 0, 0), (3, 0, 0), (3, 0, 0), (3, 0, 0), (3, 0, 0), (3, 0, 0), (3, 0, 0), (3, 0, 0), (3, 0, 0), (3, 0, 0), (3, 0, 0), (3, 0, 0), (3, 0, 0), (0, 0, 0)]) (f := (2, 1, 0)) (by rfl) rfl (by decide) qw_414 rfl dX12_init_21 rfl ?_
  refine cw_call (y := yX7_init) (As := [.ref (X.2.1 1)]) C hM hl.1 yo_X7_init rfl (by decide) (nc_54 C.2.2.1) qw_55 (kX7_initN hX 3 1 4 (by decide +kernel) (cw_last (by decide +kernel))) (cw_len2 rfl) rfl rfl (Nat.le_of_ble_eq_true rfl) dX12_init_24 ⟨Nat.le_of_ble_eq_true rfl, Nat.le_of_ble_eq_true rfl⟩ rfl (fun H locs hM => ?_)
  rw [cw_setlast (by decide +kernel), List.append_assoc, show ((xr 0 0 0).take 2) ++ _ = ((xr 0 0 0).take 8) from cn_eq (by decide +kernel)] at hM
  refine cn_put C ha hM cl_12 (j := 1) (f := (2, 3, 0)) (fs' := [(2, 1, 0), (2, 3, 0), (3, 0, 0), (3, 0, 0), (3, 0, 0), (3, 0, 0), (3, 0, 0), (3, 0, 0), (3, 0, 0), (3, 0, 0), (3, 0, 0), (3, 0, 0), (3, 0, 0), (3, 0, 0), (3, 0, 0), (3, 0, 0), (3, 0, 0), (3, 0, 0), (0, 0, 0)]) (by decide) qw_415 rfl rfl rfl rfl (Nat.le_of_ble_eq_true rfl) rfl dX12_init_27 rfl (fun H locs hM => ?_)
  refine lv_aload_n hx hb dX12_init_30 rfl (lv_at hl 0 rfl) ?_
  refine cw_new C hM cl_3 (fs := [(0, 0, 0), (0, 0, 0), (3, 0, 0), (3, 0, 0), (3, 0, 0), (3, 0, 0), (3, 0, 0), (3, 0, 0), (3, 0, 0), (3, 0, 0), (3, 0, 0), (0, 0, 0), (0, 0, 0), (0, 0, 0), (0, 0, 0), (0, 0, 0), (0, 0, 0), (0, 0, 0)]) bl_3 qw_106 qw_107 qw_6 (a1 := 9) (Nat.le_of_ble_eq_true rfl) (Nat.le_of_ble_eq_true rfl) (by decide +kernel) dX12_init_31 rfl (fun H hM => ?_)
  refine lv_dup hx hb dX12_init_34 rfl ?_
  refine cw_call (y := yX3_init) (As := []) C hM hl.1 yo_X3_init rfl (by decide) (nc_108 C.2.2.1) qw_109 (kX3_initN hX 9 10 (by decide +kernel) (cw_last (by decide +kernel))) (cw_len2 rfl) rfl rfl (Nat.le_of_ble_eq_true rfl) dX12_init_35 ⟨Nat.le_of_ble_eq_true rfl, Nat.le_of_ble_eq_true rfl⟩ rfl (fun H locs hM => ?_)
  rw [cw_setlast (by decide +kernel), List.append_assoc, show ((xr 0 0 0).take 8) ++ _ = ((xr 0 0 0).take 18) from cn_eq (by decide +kernel)] at hM
  refine cn_put C ha hM cl_12 (j := 2) (f := (2, 9, 0)) (fs' := [(2, 1, 0), (2, 3, 0), (2, 9, 0), (3, 0, 0), (3, 0, 0), (3, 0, 0), (3, 0, 0), (3, 0, 0), (3, 0, 0), (3, 0, 0), (3, 0, 0), (3, 0, 0), (3, 0, 0), (3, 0, 0), (3, 0, 0), (3, 0, 0), (3, 0, 0), (3, 0, 0), (0, 0, 0)]) (by decide) qw_416 rfl rfl rfl rfl (Nat.le_of_ble_eq_true rfl) rfl dX12_init_38 rfl (fun H locs hM => ?_)
  refine lv_aload_n hx hb dX12_init_41 rfl (lv_at hl 0 rfl) ?_
  refine cw_new C hM cl_3 (fs := [(0, 0, 0), (0, 0, 0), (3, 0, 0), (3, 0, 0), (3, 0, 0), (3, 0, 0), (3, 0, 0), (3, 0, 0), (3, 0, 0), (3, 0, 0), (3, 0, 0), (0, 0, 0), (0, 0, 0), (0, 0, 0), (0, 0, 0), (0, 0, 0), (0, 0, 0), (0, 0, 0)]) bl_3 qw_106 qw_107 qw_6 (a1 := 19) (Nat.le_of_ble_eq_true rfl) (Nat.le_of_ble_eq_true rfl) (by decide +kernel) dX12_init_42 rfl (fun H hM => ?_)
  refine lv_dup hx hb dX12_init_45 rfl ?_
  refine cw_call (y := yX3_init) (As := []) C hM hl.1 yo_X3_init rfl (by decide) (nc_108 C.2.2.1) qw_109 (kX3_initN hX 19 20 (by decide +kernel) (cw_last (by decide +kernel))) (cw_len2 rfl) rfl rfl (Nat.le_of_ble_eq_true rfl) dX12_init_46 ⟨Nat.le_of_ble_eq_true rfl, Nat.le_of_ble_eq_true rfl⟩ rfl (fun H locs hM => ?_)
  rw [cw_setlast (by decide +kernel), List.append_assoc, show ((xr 0 0 0).take 18) ++ _ = ((xr 0 0 0).take 28) from cn_eq (by decide +kernel)] at hM
  refine cn_put C ha hM cl_12 (j := 3) (f := (2, 19, 0)) (fs' := [(2, 1, 0), (2, 3, 0), (2, 9, 0), (2, 19, 0), (3, 0, 0), (3, 0, 0), (3, 0, 0), (3, 0, 0), (3, 0, 0), (3, 0, 0), (3, 0, 0), (3, 0, 0), (3, 0, 0), (3, 0, 0), (3, 0, 0), (3, 0, 0), (3, 0, 0), (3, 0, 0), (0, 0, 0)]) (by decide) qw_417 rfl rfl rfl rfl (Nat.le_of_ble_eq_true rfl) rfl dX12_init_49 rfl (fun H locs hM => ?_)
  refine lv_aload_n hx hb dX12_init_52 rfl (lv_at hl 0 rfl) ?_
  refine cw_new C hM cl_9 (fs := [(3, 0, 0), (3, 0, 0), (3, 0, 0), (3, 0, 0), (3, 0, 0), (3, 0, 0), (3, 0, 0), (3, 0, 0), (3, 0, 0), (0, 0, 0), (0, 0, 0), (0, 0, 0), (0, 0, 0)]) bl_9 qw_198 qw_199 qw_7 (a1 := 29) (Nat.le_of_ble_eq_true rfl) (Nat.le_of_ble_eq_true rfl) (by decide +kernel) dX12_init_53 rfl (fun H hM => ?_)
  refine lv_dup hx hb dX12_init_56 rfl ?_
  refine lv_aload_n hx hb dX12_init_57 rfl (lv_at hl 0 rfl) ?_
  refine cw_get C hM cl_12 (k := 0) (j := 2) (fs := [(2, 1, 0), (2, 3, 0), (2, 9, 0), (2, 19, 0), (3, 0, 0), (3, 0, 0), (3, 0, 0), (3, 0, 0), (3, 0, 0), (3, 0, 0), (3, 0, 0), (3, 0, 0), (3, 0, 0), (3, 0, 0), (3, 0, 0), (3, 0, 0), (3, 0, 0), (3, 0, 0), (0, 0, 0)]) (f := (2, 9, 0)) (by rfl) rfl (by decide) qw_416 rfl dX12_init_58 rfl ?_
  refine cw_call (y := yX9_init) (As := [.ref (X.2.1 9)]) C hM hl.1 yo_X9_init rfl (by decide) (nc_200 C.2.2.1) qw_201 (kX9_initN hX 29 9 30 (by decide +kernel) (cw_last (by decide +kernel))) (cw_len2 rfl) rfl rfl (Nat.le_of_ble_eq_true rfl) dX12_init_61 ⟨Nat.le_of_ble_eq_true rfl, Nat.le_of_ble_eq_true rfl⟩ rfl (fun H locs hM => ?_)
  rw [cw_setlast (by decide +kernel), List.append_assoc, show ((xr 0 0 0).take 28) ++ _ = ((xr 0 0 0).take 37) from cn_eq (by decide +kernel)] at hM
  refine cn_put C ha hM cl_12 (j := 4) (f := (2, 29, 0)) (fs' := [(2, 1, 0), (2, 3, 0), (2, 9, 0), (2, 19, 0), (2, 29, 0), (3, 0, 0), (3, 0, 0), (3, 0, 0), (3, 0, 0), (3, 0, 0), (3, 0, 0), (3, 0, 0), (3, 0, 0), (3, 0, 0), (3, 0, 0), (3, 0, 0), (3, 0, 0), (3, 0, 0), (0, 0, 0)]) (by decide) qw_418 rfl rfl rfl rfl (Nat.le_of_ble_eq_true rfl) rfl dX12_init_64 rfl (fun H locs hM => ?_)
  refine lv_aload_n hx hb dX12_init_67 rfl (lv_at hl 0 rfl) ?_
  refine cw_new C hM cl_9 (fs := [(3, 0, 0), (3, 0, 0), (3, 0, 0), (3, 0, 0), (3, 0, 0), (3, 0, 0), (3, 0, 0), (3, 0, 0), (3, 0, 0), (0, 0, 0), (0, 0, 0), (0, 0, 0), (0, 0, 0)]) bl_9 qw_198 qw_199 qw_7 (a1 := 38) (Nat.le_of_ble_eq_true rfl) (Nat.le_of_ble_eq_true rfl) (by decide +kernel) dX12_init_68 rfl (fun H hM => ?_)
  refine lv_dup hx hb dX12_init_71 rfl ?_
  refine lv_aload_n hx hb dX12_init_72 rfl (lv_at hl 0 rfl) ?_
  refine cw_get C hM cl_12 (k := 0) (j := 2) (fs := [(2, 1, 0), (2, 3, 0), (2, 9, 0), (2, 19, 0), (2, 29, 0), (3, 0, 0), (3, 0, 0), (3, 0, 0), (3, 0, 0), (3, 0, 0), (3, 0, 0), (3, 0, 0), (3, 0, 0), (3, 0, 0), (3, 0, 0), (3, 0, 0), (3, 0, 0), (3, 0, 0), (0, 0, 0)]) (f := (2, 9, 0)) (by rfl) rfl (by decide) qw_416 rfl dX12_init_73 rfl ?_
  refine cw_call (y := yX9_init) (As := [.ref (X.2.1 9)]) C hM hl.1 yo_X9_init rfl (by decide) (nc_200 C.2.2.1) qw_201 (kX9_initN hX 38 9 39 (by decide +kernel) (cw_last (by decide +kernel))) (cw_len2 rfl) rfl rfl (Nat.le_of_ble_eq_true rfl) dX12_init_76 ⟨Nat.le_of_ble_eq_true rfl, Nat.le_of_ble_eq_true rfl⟩ rfl (fun H locs hM => ?_)
  rw [cw_setlast (by decide +kernel), List.append_assoc, show ((xr 0 0 0).take 37) ++ _ = ((xr 0 0 0).take 46) from cn_eq (by decide +kernel)] at hM
  refine cn_put C ha hM cl_12 (j := 5) (f := (2, 38, 0)) (fs' := [(2, 1, 0), (2, 3, 0), (2, 9, 0), (2, 19, 0), (2, 29, 0), (2, 38, 0), (3, 0, 0), (3, 0, 0), (3, 0, 0), (3, 0, 0), (3, 0, 0), (3, 0, 0), (3, 0, 0), (3, 0, 0), (3, 0, 0), (3, 0, 0), (3, 0, 0), (3, 0, 0), (0, 0, 0)]) (by decide) qw_419 rfl rfl rfl rfl (Nat.le_of_ble_eq_true rfl) rfl dX12_init_79 rfl (fun H locs hM => ?_)
  refine lv_aload_n hx hb dX12_init_82 rfl (lv_at hl 0 rfl) ?_
  refine cw_new C hM cl_9 (fs := [(3, 0, 0), (3, 0, 0), (3, 0, 0), (3, 0, 0), (3, 0, 0), (3, 0, 0), (3, 0, 0), (3, 0, 0), (3, 0, 0), (0, 0, 0), (0, 0, 0), (0, 0, 0), (0, 0, 0)]) bl_9 qw_198 qw_199 qw_7 (a1 := 47) (Nat.le_of_ble_eq_true rfl) (Nat.le_of_ble_eq_true rfl) (by decide +kernel) dX12_init_83 rfl (fun H hM => ?_)
  refine lv_dup hx hb dX12_init_86 rfl ?_
  refine lv_aload_n hx hb dX12_init_87 rfl (lv_at hl 0 rfl) ?_
  refine cw_get C hM cl_12 (k := 0) (j := 2) (fs := [(2, 1, 0), (2, 3, 0), (2, 9, 0), (2, 19, 0), (2, 29, 0), (2, 38, 0), (3, 0, 0), (3, 0, 0), (3, 0, 0), (3, 0, 0), (3, 0, 0), (3, 0, 0), (3, 0, 0), (3, 0, 0), (3, 0, 0), (3, 0, 0), (3, 0, 0), (3, 0, 0), (0, 0, 0)]) (f := (2, 9, 0)) (by rfl) rfl (by decide) qw_416 rfl dX12_init_88 rfl ?_
  refine cw_call (y := yX9_init) (As := [.ref (X.2.1 9)]) C hM hl.1 yo_X9_init rfl (by decide) (nc_200 C.2.2.1) qw_201 (kX9_initN hX 47 9 48 (by decide +kernel) (cw_last (by decide +kernel))) (cw_len2 rfl) rfl rfl (Nat.le_of_ble_eq_true rfl) dX12_init_91 ⟨Nat.le_of_ble_eq_true rfl, Nat.le_of_ble_eq_true rfl⟩ rfl (fun H locs hM => ?_)
  rw [cw_setlast (by decide +kernel), List.append_assoc, show ((xr 0 0 0).take 46) ++ _ = ((xr 0 0 0).take 55) from cn_eq (by decide +kernel)] at hM
  refine cn_put C ha hM cl_12 (j := 6) (f := (2, 47, 0)) (fs' := [(2, 1, 0), (2, 3, 0), (2, 9, 0), (2, 19, 0), (2, 29, 0), (2, 38, 0), (2, 47, 0), (3, 0, 0), (3, 0, 0), (3, 0, 0), (3, 0, 0), (3, 0, 0), (3, 0, 0), (3, 0, 0), (3, 0, 0), (3, 0, 0), (3, 0, 0), (3, 0, 0), (0, 0, 0)]) (by decide) qw_420 rfl rfl rfl rfl (Nat.le_of_ble_eq_true rfl) rfl dX12_init_94 rfl (fun H locs hM => ?_)
  refine lv_aload_n hx hb dX12_init_97 rfl (lv_at hl 0 rfl) ?_
  refine cw_new C hM cl_5 (fs := [(3, 0, 0), (0, 0, 0)]) bl_5 qw_260 qw_261 qw_8 (a1 := 56) (Nat.le_of_ble_eq_true rfl) (Nat.le_of_ble_eq_true rfl) (by decide +kernel) dX12_init_98 rfl (fun H hM => ?_)
  refine lv_dup hx hb dX12_init_101 rfl ?_
  refine lv_aload_n hx hb dX12_init_102 rfl (lv_at hl 0 rfl) ?_
  refine cw_get C hM cl_12 (k := 0) (j := 2) (fs := [(2, 1, 0), (2, 3, 0), (2, 9, 0), (2, 19, 0), (2, 29, 0), (2, 38, 0), (2, 47, 0), (3, 0, 0), (3, 0, 0), (3, 0, 0), (3, 0, 0), (3, 0, 0), (3, 0, 0), (3, 0, 0), (3, 0, 0), (3, 0, 0), (3, 0, 0), (3, 0, 0), (0, 0, 0)]) (f := (2, 9, 0)) (by rfl) rfl (by decide) qw_416 rfl dX12_init_103 rfl ?_
  refine cw_call (y := yX5_init) (As := [.ref (X.2.1 9)]) C hM hl.1 yo_X5_init rfl (by decide) (nc_262 C.2.2.1) qw_263 (kX5_init hX _ (by decide +kernel) (cw_last (by decide +kernel))) (cw_len2 rfl) rfl rfl (Nat.le_of_ble_eq_true rfl) dX12_init_106 ⟨Nat.le_of_ble_eq_true rfl, Nat.le_of_ble_eq_true rfl⟩ rfl (fun H locs hM => ?_)
  rw [cw_setlast (by decide +kernel), List.append_assoc, show ((xr 0 0 0).take 55) ++ _ = ((xr 0 0 0).take 129) from cn_eq (by decide +kernel)] at hM
  refine cn_put C ha hM cl_12 (j := 7) (f := (2, 56, 0)) (fs' := [(2, 1, 0), (2, 3, 0), (2, 9, 0), (2, 19, 0), (2, 29, 0), (2, 38, 0), (2, 47, 0), (2, 56, 0), (3, 0, 0), (3, 0, 0), (3, 0, 0), (3, 0, 0), (3, 0, 0), (3, 0, 0), (3, 0, 0), (3, 0, 0), (3, 0, 0), (3, 0, 0), (0, 0, 0)]) (by decide) qw_421 rfl rfl rfl rfl (Nat.le_of_ble_eq_true rfl) rfl dX12_init_109 rfl (fun H locs hM => ?_)
  refine lv_aload_n hx hb dX12_init_112 rfl (lv_at hl 0 rfl) ?_
  refine cw_new C hM cl_8 (fs := [(3, 0, 0), (3, 0, 0), (3, 0, 0), (0, 0, 0), (0, 0, 0)]) bl_8 qw_277 qw_278 qw_9 (a1 := 130) (Nat.le_of_ble_eq_true rfl) (Nat.le_of_ble_eq_true rfl) (by decide +kernel) dX12_init_113 rfl (fun H hM => ?_)
  refine lv_dup hx hb dX12_init_116 rfl ?_
  refine cw_call (y := yX8_init) (As := []) C hM hl.1 yo_X8_init rfl (by decide) (nc_279 C.2.2.1) qw_280 (kX8_initN hX 130 131 (by decide +kernel) (cw_last (by decide +kernel))) (cw_len2 rfl) rfl rfl (Nat.le_of_ble_eq_true rfl) dX12_init_117 ⟨Nat.le_of_ble_eq_true rfl, Nat.le_of_ble_eq_true rfl⟩ rfl (fun H locs hM => ?_)
  rw [cw_setlast (by decide +kernel), List.append_assoc, show ((xr 0 0 0).take 129) ++ _ = ((xr 0 0 0).take 133) from cn_eq (by decide +kernel)] at hM
  refine cn_put C ha hM cl_12 (j := 8) (f := (2, 130, 0)) (fs' := [(2, 1, 0), (2, 3, 0), (2, 9, 0), (2, 19, 0), (2, 29, 0), (2, 38, 0), (2, 47, 0), (2, 56, 0), (2, 130, 0), (3, 0, 0), (3, 0, 0), (3, 0, 0), (3, 0, 0), (3, 0, 0), (3, 0, 0), (3, 0, 0), (3, 0, 0), (3, 0, 0), (0, 0, 0)]) (by decide) qw_422 rfl rfl rfl rfl (Nat.le_of_ble_eq_true rfl) rfl dX12_init_120 rfl (fun H locs hM => ?_)
  refine lv_aload_n hx hb dX12_init_123 rfl (lv_at hl 0 rfl) ?_
  refine cw_new C hM cl_8 (fs := [(3, 0, 0), (3, 0, 0), (3, 0, 0), (0, 0, 0), (0, 0, 0)]) bl_8 qw_277 qw_278 qw_9 (a1 := 134) (Nat.le_of_ble_eq_true rfl) (Nat.le_of_ble_eq_true rfl) (by decide +kernel) dX12_init_124 rfl (fun H hM => ?_)
  refine lv_dup hx hb dX12_init_127 rfl ?_
  refine cw_call (y := yX8_init) (As := []) C hM hl.1 yo_X8_init rfl (by decide) (nc_279 C.2.2.1) qw_280 (kX8_initN hX 134 135 (by decide +kernel) (cw_last (by decide +kernel))) (cw_len2 rfl) rfl rfl (Nat.le_of_ble_eq_true rfl) dX12_init_128 ⟨Nat.le_of_ble_eq_true rfl, Nat.le_of_ble_eq_true rfl⟩ rfl (fun H locs hM => ?_)
  rw [cw_setlast (by decide +kernel), List.append_assoc, show ((xr 0 0 0).take 133) ++ _ = ((xr 0 0 0).take 137) from cn_eq (by decide +kernel)] at hM
  refine cn_put C ha hM cl_12 (j := 9) (f := (2, 134, 0)) (fs' := [(2, 1, 0), (2, 3, 0), (2, 9, 0), (2, 19, 0), (2, 29, 0), (2, 38, 0), (2, 47, 0), (2, 56, 0), (2, 130, 0), (2, 134, 0), (3, 0, 0), (3, 0, 0), (3, 0, 0), (3, 0, 0), (3, 0, 0), (3, 0, 0), (3, 0, 0), (3, 0, 0), (0, 0, 0)]) (by decide) qw_423 rfl rfl rfl rfl (Nat.le_of_ble_eq_true rfl) rfl dX12_init_131 rfl (fun H locs hM => ?_)
  refine lv_aload_n hx hb dX12_init_134 rfl (lv_at hl 0 rfl) ?_
  refine cw_new C hM cl_1 (fs := [(3, 0, 0), (3, 0, 0), (3, 0, 0), (3, 0, 0), (0, 0, 0), (0, 0, 0), (0, 0, 0), (0, 0, 0), (0, 0, 0), (0, 0, 0)]) bl_1 qw_302 qw_303 qw_10 (a1 := 138) (Nat.le_of_ble_eq_true rfl) (Nat.le_of_ble_eq_true rfl) (by decide +kernel) dX12_init_135 rfl (fun H hM => ?_)
  refine lv_dup hx hb dX12_init_138 rfl ?_
  refine cw_call (y := yX1_init) (As := []) C hM hl.1 yo_X1_init rfl (by decide) (nc_304 C.2.2.1) qw_305 (kX1_initN hX 138 139 (by decide +kernel) (cw_last (by decide +kernel))) (cw_len2 rfl) rfl rfl (Nat.le_of_ble_eq_true rfl) dX12_init_139 ⟨Nat.le_of_ble_eq_true rfl, Nat.le_of_ble_eq_true rfl⟩ rfl (fun H locs hM => ?_)
  rw [cw_setlast (by decide +kernel), List.append_assoc, show ((xr 0 0 0).take 137) ++ _ = ((xr 0 0 0).take 142) from cn_eq (by decide +kernel)] at hM
  refine cn_put C ha hM cl_12 (j := 10) (f := (2, 138, 0)) (fs' := [(2, 1, 0), (2, 3, 0), (2, 9, 0), (2, 19, 0), (2, 29, 0), (2, 38, 0), (2, 47, 0), (2, 56, 0), (2, 130, 0), (2, 134, 0), (2, 138, 0), (3, 0, 0), (3, 0, 0), (3, 0, 0), (3, 0, 0), (3, 0, 0), (3, 0, 0), (3, 0, 0), (0, 0, 0)]) (by decide) qw_424 rfl rfl rfl rfl (Nat.le_of_ble_eq_true rfl) rfl dX12_init_142 rfl (fun H locs hM => ?_)
  refine lv_aload_n hx hb dX12_init_145 rfl (lv_at hl 0 rfl) ?_
  refine cw_new C hM cl_6 (fs := [(3, 0, 0), (0, 0, 0), (3, 0, 0), (0, 0, 0), (3, 0, 0), (3, 0, 0), (3, 0, 0)]) bl_6 qw_344 qw_345 qw_11 (a1 := 143) (Nat.le_of_ble_eq_true rfl) (Nat.le_of_ble_eq_true rfl) (by decide +kernel) dX12_init_146 rfl (fun H hM => ?_)
  refine lv_dup hx hb dX12_init_149 rfl ?_
  refine cw_call (y := yX6_init) (As := []) C hM hl.1 yo_X6_init rfl (by decide) (nc_346 C.2.2.1) qw_347 (kX6_initN hX 143 144 (by decide +kernel) (cw_last (by decide +kernel))) (cw_len2 rfl) rfl rfl (Nat.le_of_ble_eq_true rfl) dX12_init_150 ⟨Nat.le_of_ble_eq_true rfl, Nat.le_of_ble_eq_true rfl⟩ rfl (fun H locs hM => ?_)
  rw [cw_setlast (by decide +kernel), List.append_assoc, show ((xr 0 0 0).take 142) ++ _ = ((xr 0 0 0).take 148) from cn_eq (by decide +kernel)] at hM
  refine cn_put C ha hM cl_12 (j := 11) (f := (2, 143, 0)) (fs' := [(2, 1, 0), (2, 3, 0), (2, 9, 0), (2, 19, 0), (2, 29, 0), (2, 38, 0), (2, 47, 0), (2, 56, 0), (2, 130, 0), (2, 134, 0), (2, 138, 0), (2, 143, 0), (3, 0, 0), (3, 0, 0), (3, 0, 0), (3, 0, 0), (3, 0, 0), (3, 0, 0), (0, 0, 0)]) (by decide) qw_425 rfl rfl rfl rfl (Nat.le_of_ble_eq_true rfl) rfl dX12_init_153 rfl (fun H locs hM => ?_)
  refine lv_aload_n hx hb dX12_init_156 rfl (lv_at hl 0 rfl) ?_
  refine cw_new C hM cl_2 (fs := [(0, 0, 0), (0, 0, 0), (3, 0, 0), (3, 0, 0)]) bl_2 qw_376 qw_377 qw_12 (a1 := 149) (Nat.le_of_ble_eq_true rfl) (Nat.le_of_ble_eq_true rfl) (by decide +kernel) dX12_init_157 rfl (fun H hM => ?_)
  refine lv_dup hx hb dX12_init_160 rfl ?_
  refine cw_call (y := yX2_init) (As := []) C hM hl.1 yo_X2_init rfl (by decide) (nc_378 C.2.2.1) qw_379 (kX2_initN hX 149 150 (by decide +kernel) (cw_last (by decide +kernel))) (cw_len2 rfl) rfl rfl (Nat.le_of_ble_eq_true rfl) dX12_init_161 ⟨Nat.le_of_ble_eq_true rfl, Nat.le_of_ble_eq_true rfl⟩ rfl (fun H locs hM => ?_)
  rw [cw_setlast (by decide +kernel), List.append_assoc, show ((xr 0 0 0).take 148) ++ _ = ((xr 0 0 0).take 151) from cn_eq (by decide +kernel)] at hM
  refine cn_put C ha hM cl_12 (j := 12) (f := (2, 149, 0)) (fs' := [(2, 1, 0), (2, 3, 0), (2, 9, 0), (2, 19, 0), (2, 29, 0), (2, 38, 0), (2, 47, 0), (2, 56, 0), (2, 130, 0), (2, 134, 0), (2, 138, 0), (2, 143, 0), (2, 149, 0), (3, 0, 0), (3, 0, 0), (3, 0, 0), (3, 0, 0), (3, 0, 0), (0, 0, 0)]) (by decide) qw_426 rfl rfl rfl rfl (Nat.le_of_ble_eq_true rfl) rfl dX12_init_164 rfl (fun H locs hM => ?_)
  refine lv_aload_n hx hb dX12_init_167 rfl (lv_at hl 0 rfl) ?_
  refine cw_new C hM cl_4 (fs := [(3, 0, 0), (0, 0, 0)]) bl_4 qw_397 qw_398 qw_13 (a1 := 152) (Nat.le_of_ble_eq_true rfl) (Nat.le_of_ble_eq_true rfl) (by decide +kernel) dX12_init_168 rfl (fun H hM => ?_)
  refine lv_dup hx hb dX12_init_171 rfl ?_
  refine cw_call (y := yX4_init) (As := []) C hM hl.1 yo_X4_init rfl (by decide) (nc_399 C.2.2.1) qw_400 (kX4_initN hX 152 153 (by decide +kernel) (cw_last (by decide +kernel))) (cw_len2 rfl) rfl rfl (Nat.le_of_ble_eq_true rfl) dX12_init_172 ⟨Nat.le_of_ble_eq_true rfl, Nat.le_of_ble_eq_true rfl⟩ rfl (fun H locs hM => ?_)
  rw [cw_setlast (by decide +kernel), List.append_assoc, show ((xr 0 0 0).take 151) ++ _ = ((xr 0 0 0).take 153) from cn_eq (by decide +kernel)] at hM
  refine cn_put C ha hM cl_12 (j := 13) (f := (2, 152, 0)) (fs' := [(2, 1, 0), (2, 3, 0), (2, 9, 0), (2, 19, 0), (2, 29, 0), (2, 38, 0), (2, 47, 0), (2, 56, 0), (2, 130, 0), (2, 134, 0), (2, 138, 0), (2, 143, 0), (2, 149, 0), (2, 152, 0), (3, 0, 0), (3, 0, 0), (3, 0, 0), (3, 0, 0), (0, 0, 0)]) (by decide) qw_427 rfl rfl rfl rfl (Nat.le_of_ble_eq_true rfl) rfl dX12_init_175 rfl (fun H locs hM => ?_)
  refine lv_aload_n hx hb dX12_init_178 rfl (lv_at hl 0 rfl) ?_
  refine lv_iconst (v := (nI 2)) hx hb dX12_init_179 (by decide) ?_
  refine cn_newQ C hM (t := 5) (N := 2) (a := 158) (b := 23) (L' := ((xr 0 0 0).take 154)) (a1 := 154) qw_106 C.2.2.1.2.2.1 rfl rfl (nI_pos (by decide)) (nI_clamp (by decide)) (by decide) (Nat.le_of_ble_eq_true rfl) (Nat.le_of_ble_eq_true rfl) (cn_eq (by decide +kernel)) (by decide +kernel) dX12_init_180 rfl (fun H hM => ?_)
  refine cn_put C ha hM cl_12 (j := 14) (f := (2, 154, 0)) (fs' := [(2, 1, 0), (2, 3, 0), (2, 9, 0), (2, 19, 0), (2, 29, 0), (2, 38, 0), (2, 47, 0), (2, 56, 0), (2, 130, 0), (2, 134, 0), (2, 138, 0), (2, 143, 0), (2, 149, 0), (2, 152, 0), (2, 154, 0), (3, 0, 0), (3, 0, 0), (3, 0, 0), (0, 0, 0)]) (by decide) qw_428 rfl rfl rfl rfl (Nat.le_of_ble_eq_true rfl) rfl dX12_init_183 rfl (fun H locs hM => ?_)
  refine lv_aload_n hx hb dX12_init_186 rfl (lv_at hl 0 rfl) ?_
  refine lv_iconst (v := (nI 2)) hx hb dX12_init_187 (by decide) ?_
  refine cn_newQ C hM (t := 4) (N := 2) (a := 168) (b := 23) (L' := ((xr 0 0 0).take 155)) (a1 := 155) qw_198 C.2.2.1.2.1 rfl rfl (nI_pos (by decide)) (nI_clamp (by decide)) (by decide) (Nat.le_of_ble_eq_true rfl) (Nat.le_of_ble_eq_true rfl) (cn_eq (by decide +kernel)) (by decide +kernel) dX12_init_188 rfl (fun H hM => ?_)
  refine cn_put C ha hM cl_12 (j := 15) (f := (2, 155, 0)) (fs' := [(2, 1, 0), (2, 3, 0), (2, 9, 0), (2, 19, 0), (2, 29, 0), (2, 38, 0), (2, 47, 0), (2, 56, 0), (2, 130, 0), (2, 134, 0), (2, 138, 0), (2, 143, 0), (2, 149, 0), (2, 152, 0), (2, 154, 0), (2, 155, 0), (3, 0, 0), (3, 0, 0), (0, 0, 0)]) (by decide) qw_429 rfl rfl rfl rfl (Nat.le_of_ble_eq_true rfl) rfl dX12_init_191 rfl (fun H locs hM => ?_)
  refine lv_aload_n hx hb dX12_init_194 rfl (lv_at hl 0 rfl) ?_
  refine lv_iconst (v := (nI 2)) hx hb dX12_init_195 (by decide) ?_
  refine cn_newQ C hM (t := 6) (N := 2) (a := 177) (b := 23) (L' := ((xr 0 0 0).take 156)) (a1 := 156) qw_277 C.2.2.1.2.2.2.1 rfl rfl (nI_pos (by decide)) (nI_clamp (by decide)) (by decide) (Nat.le_of_ble_eq_true rfl) (Nat.le_of_ble_eq_true rfl) (cn_eq (by decide +kernel)) (by decide +kernel) dX12_init_196 rfl (fun H hM => ?_)
  refine cn_put C ha hM cl_12 (j := 16) (f := (2, 156, 0)) (fs' := [(2, 1, 0), (2, 3, 0), (2, 9, 0), (2, 19, 0), (2, 29, 0), (2, 38, 0), (2, 47, 0), (2, 56, 0), (2, 130, 0), (2, 134, 0), (2, 138, 0), (2, 143, 0), (2, 149, 0), (2, 152, 0), (2, 154, 0), (2, 155, 0), (2, 156, 0), (3, 0, 0), (0, 0, 0)]) (by decide) qw_430 rfl rfl rfl rfl (Nat.le_of_ble_eq_true rfl) rfl dX12_init_199 rfl (fun H locs hM => ?_)
  refine lv_aload_n hx hb dX12_init_202 rfl (lv_at hl 0 rfl) ?_
  refine lv_iconst (v := (nI 2)) hx hb dX12_init_203 (by decide) ?_
  refine cn_newZ C hM (N := 2) (v := 0) (L' := ((xr 0 0 0).take 157)) (a1 := 157) (nI_pos (by decide)) (nI_clamp (by decide)) (by decide) (Nat.le_of_ble_eq_true rfl) (Nat.le_of_ble_eq_true rfl) (cn_eq (by decide +kernel)) (by decide +kernel) dX12_init_204 rfl (fun H hM => ?_)
  refine cn_put C ha hM cl_12 (j := 17) (f := (2, 157, 0)) (fs' := [(2, 1, 0), (2, 3, 0), (2, 9, 0), (2, 19, 0), (2, 29, 0), (2, 38, 0), (2, 47, 0), (2, 56, 0), (2, 130, 0), (2, 134, 0), (2, 138, 0), (2, 143, 0), (2, 149, 0), (2, 152, 0), (2, 154, 0), (2, 155, 0), (2, 156, 0), (2, 157, 0), (0, 0, 0)]) (by decide) qw_431 rfl rfl rfl rfl (Nat.le_of_ble_eq_true rfl) rfl dX12_init_206 rfl (fun H locs hM => ?_)
  refine lv_iconst (v := (nI 0)) hx hb dX12_init_209 (by decide) ?_
  refine lv_istore_n (lv' := [(1, .int (nI 0)), (0, .ref (X.2.1 0))]) hx hb dX12_init_210 rfl hl (by decide) rfl (fun ls hl => ?_)
  refine lv_iload_n hx hb dX12_init_211 rfl (lv_at hl 0 rfl) ?_
  refine lv_iconst (v := (nI 2)) hx hb dX12_init_212 (by decide) ?_
  refine lv_icmp_ge (tgt := 265) hx hb dX12_init_213 (by decide) (fun hc => absurd hc (nI_ge (by decide) (by decide))) (fun hc => ?_)
  refine lv_aload_n hx hb dX12_init_216 rfl (lv_at hl 1 rfl) ?_
  refine cn_get C ha hM cl_12 (j := 14) (f := (2, 154, 0)) rfl (by decide) qw_428 rfl dX12_init_217 rfl ?_
  refine lv_iload_n hx hb dX12_init_220 rfl (lv_at hl 0 rfl) ?_
  refine cw_new C hM cl_3 (fs := [(0, 0, 0), (0, 0, 0), (3, 0, 0), (3, 0, 0), (3, 0, 0), (3, 0, 0), (3, 0, 0), (3, 0, 0), (3, 0, 0), (3, 0, 0), (3, 0, 0), (0, 0, 0), (0, 0, 0), (0, 0, 0), (0, 0, 0), (0, 0, 0), (0, 0, 0), (0, 0, 0)]) bl_3 qw_106 qw_107 qw_6 (a1 := 158) (Nat.le_of_ble_eq_true rfl) (Nat.le_of_ble_eq_true rfl) (by decide +kernel) dX12_init_221 rfl (fun H hM => ?_)
  refine lv_dup hx hb dX12_init_224 rfl ?_
  refine cw_call (y := yX3_init) (As := []) C hM hl.1 yo_X3_init rfl (by decide) (nc_108 C.2.2.1) qw_109 (kX3_initN hX 158 159 (by decide +kernel) (cw_last (by decide +kernel))) (cw_len2 rfl) rfl rfl (Nat.le_of_ble_eq_true rfl) dX12_init_225 ⟨Nat.le_of_ble_eq_true rfl, Nat.le_of_ble_eq_true rfl⟩ rfl (fun H locs hM => ?_)
  rw [cw_setlast (by decide +kernel), List.append_assoc, show ((xr 0 0 0).take 157) ++ _ = ((xr 0 0 0).take 167) from cn_eq (by decide +kernel)] at hM
  refine cw_aast C hM (k := 154) (t := 5) (n := 2) (j := 0) (a := 158) (b := 23) (ci := 3) (g := 158) (fs := [(0, 0, 0), (0, 0, 0), (2, 159, 0), (2, 160, 0), (2, 161, 0), (2, 162, 0), (2, 163, 0), (2, 164, 0), (2, 165, 0), (2, 166, 0), (2, 167, 0), (0, 0, (nI 1)), (0, 0, (nI 5)), (0, 0, (nI 4)), (0, 0, 0), (0, 0, 0), (0, 0, 0), (0, 0, 0)]) (r := (RX3, TX3, 18)) (cn_op (by decide +kernel)) (fun _ => rfl) rfl rfl (cn_op (by decide +kernel)) rfl (nI_clamp (by decide)) (vp_in_nI (by decide) (by decide)) dX12_init_228 rfl (fun H locs hM => ?_)
  rw [show List.set (([.inl (12, [(3, 0, 0), (3, 0, 0), (3, 0, 0), (3, 0, 0), (3, 0, 0), (3, 0, 0), (3, 0, 0), (3, 0, 0), (3, 0, 0), (3, 0, 0), (3, 0, 0), (3, 0, 0), (3, 0, 0), (3, 0, 0), (3, 0, 0), (3, 0, 0), (3, 0, 0), (3, 0, 0), (0, 0, 0)])] : List CN).set 0 (.inl (12, [(2, 1, 0), (2, 3, 0), (2, 9, 0), (2, 19, 0), (2, 29, 0), (2, 38, 0), (2, 47, 0), (2, 56, 0), (2, 130, 0), (2, 134, 0), (2, 138, 0), (2, 143, 0), (2, 149, 0), (2, 152, 0), (2, 154, 0), (2, 155, 0), (2, 156, 0), (2, 157, 0), (0, 0, 0)])) ++ ((xr 0 0 0).take 167)) 154 _ = ([.inl (12, [(3, 0, 0), (3, 0, 0), (3, 0, 0), (3, 0, 0), (3, 0, 0), (3, 0, 0), (3, 0, 0), (3, 0, 0), (3, 0, 0), (3, 0, 0), (3, 0, 0), (3, 0, 0), (3, 0, 0), (3, 0, 0), (3, 0, 0), (3, 0, 0), (3, 0, 0), (3, 0, 0), (0, 0, 0)])] : List CN).set 0 (.inl (12, [(2, 1, 0), (2, 3, 0), (2, 9, 0), (2, 19, 0), (2, 29, 0), (2, 38, 0), (2, 47, 0), (2, 56, 0), (2, 130, 0), (2, 134, 0), (2, 138, 0), (2, 143, 0), (2, 149, 0), (2, 152, 0), (2, 154, 0), (2, 155, 0), (2, 156, 0), (2, 157, 0), (0, 0, 0)])) ++ ((xr 1 0 0).take 167) from cn_eq (by decide +kernel)] at hM
  refine lv_aload_n hx hb dX12_init_229 rfl (lv_at hl 1 rfl) ?_
  refine cn_get C ha hM cl_12 (j := 15) (f := (2, 155, 0)) rfl (by decide) qw_429 rfl dX12_init_230 rfl ?_
  refine lv_iload_n hx hb dX12_init_233 rfl (lv_at hl 0 rfl) ?_
  refine cw_new C hM cl_9 (fs := [(3, 0, 0), (3, 0, 0), (3, 0, 0), (3, 0, 0), (3, 0, 0), (3, 0, 0), (3, 0, 0), (3, 0, 0), (3, 0, 0), (0, 0, 0), (0, 0, 0), (0, 0, 0), (0, 0, 0)]) bl_9 qw_198 qw_199 qw_7 (a1 := 168) (Nat.le_of_ble_eq_true rfl) (Nat.le_of_ble_eq_true rfl) (by decide +kernel) dX12_init_234 rfl (fun H hM => ?_)
  refine lv_dup hx hb dX12_init_237 rfl ?_
  refine lv_aload_n hx hb dX12_init_238 rfl (lv_at hl 1 rfl) ?_
  refine cw_get C hM cl_12 (k := 0) (j := 2) (fs := [(2, 1, 0), (2, 3, 0), (2, 9, 0), (2, 19, 0), (2, 29, 0), (2, 38, 0), (2, 47, 0), (2, 56, 0), (2, 130, 0), (2, 134, 0), (2, 138, 0), (2, 143, 0), (2, 149, 0), (2, 152, 0), (2, 154, 0), (2, 155, 0), (2, 156, 0), (2, 157, 0), (0, 0, 0)]) (f := (2, 9, 0)) (by rfl) rfl (by decide) qw_416 rfl dX12_init_239 rfl ?_
  refine cw_call (y := yX9_init) (As := [.ref (X.2.1 9)]) C hM hl.1 yo_X9_init rfl (by decide) (nc_200 C.2.2.1) qw_201 (kX9_initN hX 168 9 169 (by decide +kernel) (cw_last (by decide +kernel))) (cw_len2 rfl) rfl rfl (Nat.le_of_ble_eq_true rfl) dX12_init_242 ⟨Nat.le_of_ble_eq_true rfl, Nat.le_of_ble_eq_true rfl⟩ rfl (fun H locs hM => ?_)
  rw [cw_setlast (by decide +kernel), List.append_assoc, show ((xr 1 0 0).take 167) ++ _ = ((xr 1 0 0).take 176) from cn_eq (by decide +kernel)] at hM
  refine cw_aast C hM (k := 155) (t := 4) (n := 2) (j := 0) (a := 168) (b := 23) (ci := 9) (g := 168) (fs := [(2, 9, 0), (2, 169, 0), (2, 170, 0), (2, 171, 0), (2, 172, 0), (2, 173, 0), (2, 174, 0), (2, 175, 0), (2, 176, 0), (0, 0, 0), (0, 0, 0), (0, 0, 0), (0, 0, 0)]) (r := (RX9, TX9, 13)) (cn_op (by decide +kernel)) (fun _ => rfl) rfl rfl (cn_op (by decide +kernel)) rfl (nI_clamp (by decide)) (vp_in_nI (by decide) (by decide)) dX12_init_245 rfl (fun H locs hM => ?_)
  rw [show List.set (([.inl (12, [(3, 0, 0), (3, 0, 0), (3, 0, 0), (3, 0, 0), (3, 0, 0), (3, 0, 0), (3, 0, 0), (3, 0, 0), (3, 0, 0), (3, 0, 0), (3, 0, 0), (3, 0, 0), (3, 0, 0), (3, 0, 0), (3, 0, 0), (3, 0, 0), (3, 0, 0), (3, 0, 0), (0, 0, 0)])] : List CN).set 0 (.inl (12, [(2, 1, 0), (2, 3, 0), (2, 9, 0), (2, 19, 0), (2, 29, 0), (2, 38, 0), (2, 47, 0), (2, 56, 0), (2, 130, 0), (2, 134, 0), (2, 138, 0), (2, 143, 0), (2, 149, 0), (2, 152, 0), (2, 154, 0), (2, 155, 0), (2, 156, 0), (2, 157, 0), (0, 0, 0)])) ++ ((xr 1 0 0).take 176)) 155 _ = ([.inl (12, [(3, 0, 0), (3, 0, 0), (3, 0, 0), (3, 0, 0), (3, 0, 0), (3, 0, 0), (3, 0, 0), (3, 0, 0), (3, 0, 0), (3, 0, 0), (3, 0, 0), (3, 0, 0), (3, 0, 0), (3, 0, 0), (3, 0, 0), (3, 0, 0), (3, 0, 0), (3, 0, 0), (0, 0, 0)])] : List CN).set 0 (.inl (12, [(2, 1, 0), (2, 3, 0), (2, 9, 0), (2, 19, 0), (2, 29, 0), (2, 38, 0), (2, 47, 0), (2, 56, 0), (2, 130, 0), (2, 134, 0), (2, 138, 0), (2, 143, 0), (2, 149, 0), (2, 152, 0), (2, 154, 0), (2, 155, 0), (2, 156, 0), (2, 157, 0), (0, 0, 0)])) ++ ((xr 1 1 0).take 176) from cn_eq (by decide +kernel)] at hM
  refine lv_aload_n hx hb dX12_init_246 rfl (lv_at hl 1 rfl) ?_
  refine cn_get C ha hM cl_12 (j := 16) (f := (2, 156, 0)) rfl (by decide) qw_430 rfl dX12_init_247 rfl ?_
  refine lv_iload_n hx hb dX12_init_250 rfl (lv_at hl 0 rfl) ?_
  refine cw_new C hM cl_8 (fs := [(3, 0, 0), (3, 0, 0), (3, 0, 0), (0, 0, 0), (0, 0, 0)]) bl_8 qw_277 qw_278 qw_9 (a1 := 177) (Nat.le_of_ble_eq_true rfl) (Nat.le_of_ble_eq_true rfl) (by decide +kernel) dX12_init_251 rfl (fun H hM => ?_)
  refine lv_dup hx hb dX12_init_254 rfl ?_
  refine cw_call (y := yX8_init) (As := []) C hM hl.1 yo_X8_init rfl (by decide) (nc_279 C.2.2.1) qw_280 (kX8_initN hX 177 178 (by decide +kernel) (cw_last (by decide +kernel))) (cw_len2 rfl) rfl rfl (Nat.le_of_ble_eq_true rfl) dX12_init_255 ⟨Nat.le_of_ble_eq_true rfl, Nat.le_of_ble_eq_true rfl⟩ rfl (fun H locs hM => ?_)
  rw [cw_setlast (by decide +kernel), List.append_assoc, show ((xr 1 1 0).take 176) ++ _ = ((xr 1 1 0).take 180) from cn_eq (by decide +kernel)] at hM
  refine cw_aast C hM (k := 156) (t := 6) (n := 2) (j := 0) (a := 177) (b := 23) (ci := 8) (g := 177) (fs := [(2, 178, 0), (2, 179, 0), (2, 180, 0), (0, 0, 0), (0, 0, 0)]) (r := (RX8, TX8, 5)) (cn_op (by decide +kernel)) (fun _ => rfl) rfl rfl (cn_op (by decide +kernel)) rfl (nI_clamp (by decide)) (vp_in_nI (by decide) (by decide)) dX12_init_258 rfl (fun H locs hM => ?_)
  rw [show List.set (([.inl (12, [(3, 0, 0), (3, 0, 0), (3, 0, 0), (3, 0, 0), (3, 0, 0), (3, 0, 0), (3, 0, 0), (3, 0, 0), (3, 0, 0), (3, 0, 0), (3, 0, 0), (3, 0, 0), (3, 0, 0), (3, 0, 0), (3, 0, 0), (3, 0, 0), (3, 0, 0), (3, 0, 0), (0, 0, 0)])] : List CN).set 0 (.inl (12, [(2, 1, 0), (2, 3, 0), (2, 9, 0), (2, 19, 0), (2, 29, 0), (2, 38, 0), (2, 47, 0), (2, 56, 0), (2, 130, 0), (2, 134, 0), (2, 138, 0), (2, 143, 0), (2, 149, 0), (2, 152, 0), (2, 154, 0), (2, 155, 0), (2, 156, 0), (2, 157, 0), (0, 0, 0)])) ++ ((xr 1 1 0).take 180)) 156 _ = ([.inl (12, [(3, 0, 0), (3, 0, 0), (3, 0, 0), (3, 0, 0), (3, 0, 0), (3, 0, 0), (3, 0, 0), (3, 0, 0), (3, 0, 0), (3, 0, 0), (3, 0, 0), (3, 0, 0), (3, 0, 0), (3, 0, 0), (3, 0, 0), (3, 0, 0), (3, 0, 0), (3, 0, 0), (0, 0, 0)])] : List CN).set 0 (.inl (12, [(2, 1, 0), (2, 3, 0), (2, 9, 0), (2, 19, 0), (2, 29, 0), (2, 38, 0), (2, 47, 0), (2, 56, 0), (2, 130, 0), (2, 134, 0), (2, 138, 0), (2, 143, 0), (2, 149, 0), (2, 152, 0), (2, 154, 0), (2, 155, 0), (2, 156, 0), (2, 157, 0), (0, 0, 0)])) ++ ((xr 1 1 1).take 180) from cn_eq (by decide +kernel)] at hM
  refine lv_iinc (v := nI 1) (lv' := [(1, .int (nI 1)), (0, .ref (X.2.1 0))]) hx hb dX12_init_259 hl (k := 0) rfl (by decide) (by decide) rfl (fun ls hl => ?_)
  refine lv_goto (tgt := 211) hx hb dX12_init_262 (by decide) ?_
  refine lv_iload_n hx hb dX12_init_211 rfl (lv_at hl 0 rfl) ?_
  refine lv_iconst (v := (nI 2)) hx hb dX12_init_212 (by decide) ?_
  refine lv_icmp_ge (tgt := 265) hx hb dX12_init_213 (by decide) (fun hc => absurd hc (nI_ge (by decide) (by decide))) (fun hc => ?_)
  refine lv_aload_n hx hb dX12_init_216 rfl (lv_at hl 1 rfl) ?_
  refine cn_get C ha hM cl_12 (j := 14) (f := (2, 154, 0)) rfl (by decide) qw_428 rfl dX12_init_217 rfl ?_
  refine lv_iload_n hx hb dX12_init_220 rfl (lv_at hl 0 rfl) ?_
  refine cw_new C hM cl_3 (fs := [(0, 0, 0), (0, 0, 0), (3, 0, 0), (3, 0, 0), (3, 0, 0), (3, 0, 0), (3, 0, 0), (3, 0, 0), (3, 0, 0), (3, 0, 0), (3, 0, 0), (0, 0, 0), (0, 0, 0), (0, 0, 0), (0, 0, 0), (0, 0, 0), (0, 0, 0), (0, 0, 0)]) bl_3 qw_106 qw_107 qw_6 (a1 := 181) (Nat.le_of_ble_eq_true rfl) (Nat.le_of_ble_eq_true rfl) (by decide +kernel) dX12_init_221 rfl (fun H hM => ?_)
  refine lv_dup hx hb dX12_init_224 rfl ?_
  refine cw_call (y := yX3_init) (As := []) C hM hl.1 yo_X3_init rfl (by decide) (nc_108 C.2.2.1) qw_109 (kX3_initN hX 181 182 (by decide +kernel) (cw_last (by decide +kernel))) (cw_len2 rfl) rfl rfl (Nat.le_of_ble_eq_true rfl) dX12_init_225 ⟨Nat.le_of_ble_eq_true rfl, Nat.le_of_ble_eq_true rfl⟩ rfl (fun H locs hM => ?_)
  rw [cw_setlast (by decide +kernel), List.append_assoc, show ((xr 1 1 1).take 180) ++ _ = ((xr 1 1 1).take 190) from cn_eq (by decide +kernel)] at hM
  refine cw_aast C hM (k := 154) (t := 5) (n := 2) (j := 1) (a := 158) (b := 23) (ci := 3) (g := 181) (fs := [(0, 0, 0), (0, 0, 0), (2, 182, 0), (2, 183, 0), (2, 184, 0), (2, 185, 0), (2, 186, 0), (2, 187, 0), (2, 188, 0), (2, 189, 0), (2, 190, 0), (0, 0, (nI 1)), (0, 0, (nI 5)), (0, 0, (nI 4)), (0, 0, 0), (0, 0, 0), (0, 0, 0), (0, 0, 0)]) (r := (RX3, TX3, 18)) (cn_op (by decide +kernel)) (fun _ => rfl) rfl rfl (cn_op (by decide +kernel)) rfl (nI_clamp (by decide)) (vp_in_nI (by decide) (by decide)) dX12_init_228 rfl (fun H locs hM => ?_)
  rw [show List.set (([.inl (12, [(3, 0, 0), (3, 0, 0), (3, 0, 0), (3, 0, 0), (3, 0, 0), (3, 0, 0), (3, 0, 0), (3, 0, 0), (3, 0, 0), (3, 0, 0), (3, 0, 0), (3, 0, 0), (3, 0, 0), (3, 0, 0), (3, 0, 0), (3, 0, 0), (3, 0, 0), (3, 0, 0), (0, 0, 0)])] : List CN).set 0 (.inl (12, [(2, 1, 0), (2, 3, 0), (2, 9, 0), (2, 19, 0), (2, 29, 0), (2, 38, 0), (2, 47, 0), (2, 56, 0), (2, 130, 0), (2, 134, 0), (2, 138, 0), (2, 143, 0), (2, 149, 0), (2, 152, 0), (2, 154, 0), (2, 155, 0), (2, 156, 0), (2, 157, 0), (0, 0, 0)])) ++ ((xr 1 1 1).take 190)) 154 _ = ([.inl (12, [(3, 0, 0), (3, 0, 0), (3, 0, 0), (3, 0, 0), (3, 0, 0), (3, 0, 0), (3, 0, 0), (3, 0, 0), (3, 0, 0), (3, 0, 0), (3, 0, 0), (3, 0, 0), (3, 0, 0), (3, 0, 0), (3, 0, 0), (3, 0, 0), (3, 0, 0), (3, 0, 0), (0, 0, 0)])] : List CN).set 0 (.inl (12, [(2, 1, 0), (2, 3, 0), (2, 9, 0), (2, 19, 0), (2, 29, 0), (2, 38, 0), (2, 47, 0), (2, 56, 0), (2, 130, 0), (2, 134, 0), (2, 138, 0), (2, 143, 0), (2, 149, 0), (2, 152, 0), (2, 154, 0), (2, 155, 0), (2, 156, 0), (2, 157, 0), (0, 0, 0)])) ++ ((xr 2 1 1).take 190) from cn_eq (by decide +kernel)] at hM
  refine lv_aload_n hx hb dX12_init_229 rfl (lv_at hl 1 rfl) ?_
  refine cn_get C ha hM cl_12 (j := 15) (f := (2, 155, 0)) rfl (by decide) qw_429 rfl dX12_init_230 rfl ?_
  refine lv_iload_n hx hb dX12_init_233 rfl (lv_at hl 0 rfl) ?_
  refine cw_new C hM cl_9 (fs := [(3, 0, 0), (3, 0, 0), (3, 0, 0), (3, 0, 0), (3, 0, 0), (3, 0, 0), (3, 0, 0), (3, 0, 0), (3, 0, 0), (0, 0, 0), (0, 0, 0), (0, 0, 0), (0, 0, 0)]) bl_9 qw_198 qw_199 qw_7 (a1 := 191) (Nat.le_of_ble_eq_true rfl) (Nat.le_of_ble_eq_true rfl) (by decide +kernel) dX12_init_234 rfl (fun H hM => ?_)
  refine lv_dup hx hb dX12_init_237 rfl ?_
  refine lv_aload_n hx hb dX12_init_238 rfl (lv_at hl 1 rfl) ?_
  refine cw_get C hM cl_12 (k := 0) (j := 2) (fs := [(2, 1, 0), (2, 3, 0), (2, 9, 0), (2, 19, 0), (2, 29, 0), (2, 38, 0), (2, 47, 0), (2, 56, 0), (2, 130, 0), (2, 134, 0), (2, 138, 0), (2, 143, 0), (2, 149, 0), (2, 152, 0), (2, 154, 0), (2, 155, 0), (2, 156, 0), (2, 157, 0), (0, 0, 0)]) (f := (2, 9, 0)) (by rfl) rfl (by decide) qw_416 rfl dX12_init_239 rfl ?_
  refine cw_call (y := yX9_init) (As := [.ref (X.2.1 9)]) C hM hl.1 yo_X9_init rfl (by decide) (nc_200 C.2.2.1) qw_201 (kX9_initN hX 191 9 192 (by decide +kernel) (cw_last (by decide +kernel))) (cw_len2 rfl) rfl rfl (Nat.le_of_ble_eq_true rfl) dX12_init_242 ⟨Nat.le_of_ble_eq_true rfl, Nat.le_of_ble_eq_true rfl⟩ rfl (fun H locs hM => ?_)
  rw [cw_setlast (by decide +kernel), List.append_assoc, show ((xr 2 1 1).take 190) ++ _ = ((xr 2 1 1).take 199) from cn_eq (by decide +kernel)] at hM
  refine cw_aast C hM (k := 155) (t := 4) (n := 2) (j := 1) (a := 168) (b := 23) (ci := 9) (g := 191) (fs := [(2, 9, 0), (2, 192, 0), (2, 193, 0), (2, 194, 0), (2, 195, 0), (2, 196, 0), (2, 197, 0), (2, 198, 0), (2, 199, 0), (0, 0, 0), (0, 0, 0), (0, 0, 0), (0, 0, 0)]) (r := (RX9, TX9, 13)) (cn_op (by decide +kernel)) (fun _ => rfl) rfl rfl (cn_op (by decide +kernel)) rfl (nI_clamp (by decide)) (vp_in_nI (by decide) (by decide)) dX12_init_245 rfl (fun H locs hM => ?_)
  rw [show List.set (([.inl (12, [(3, 0, 0), (3, 0, 0), (3, 0, 0), (3, 0, 0), (3, 0, 0), (3, 0, 0), (3, 0, 0), (3, 0, 0), (3, 0, 0), (3, 0, 0), (3, 0, 0), (3, 0, 0), (3, 0, 0), (3, 0, 0), (3, 0, 0), (3, 0, 0), (3, 0, 0), (3, 0, 0), (0, 0, 0)])] : List CN).set 0 (.inl (12, [(2, 1, 0), (2, 3, 0), (2, 9, 0), (2, 19, 0), (2, 29, 0), (2, 38, 0), (2, 47, 0), (2, 56, 0), (2, 130, 0), (2, 134, 0), (2, 138, 0), (2, 143, 0), (2, 149, 0), (2, 152, 0), (2, 154, 0), (2, 155, 0), (2, 156, 0), (2, 157, 0), (0, 0, 0)])) ++ ((xr 2 1 1).take 199)) 155 _ = ([.inl (12, [(3, 0, 0), (3, 0, 0), (3, 0, 0), (3, 0, 0), (3, 0, 0), (3, 0, 0), (3, 0, 0), (3, 0, 0), (3, 0, 0), (3, 0, 0), (3, 0, 0), (3, 0, 0), (3, 0, 0), (3, 0, 0), (3, 0, 0), (3, 0, 0), (3, 0, 0), (3, 0, 0), (0, 0, 0)])] : List CN).set 0 (.inl (12, [(2, 1, 0), (2, 3, 0), (2, 9, 0), (2, 19, 0), (2, 29, 0), (2, 38, 0), (2, 47, 0), (2, 56, 0), (2, 130, 0), (2, 134, 0), (2, 138, 0), (2, 143, 0), (2, 149, 0), (2, 152, 0), (2, 154, 0), (2, 155, 0), (2, 156, 0), (2, 157, 0), (0, 0, 0)])) ++ ((xr 2 2 1).take 199) from cn_eq (by decide +kernel)] at hM
  refine lv_aload_n hx hb dX12_init_246 rfl (lv_at hl 1 rfl) ?_
  refine cn_get C ha hM cl_12 (j := 16) (f := (2, 156, 0)) rfl (by decide) qw_430 rfl dX12_init_247 rfl ?_
  refine lv_iload_n hx hb dX12_init_250 rfl (lv_at hl 0 rfl) ?_
  refine cw_new C hM cl_8 (fs := [(3, 0, 0), (3, 0, 0), (3, 0, 0), (0, 0, 0), (0, 0, 0)]) bl_8 qw_277 qw_278 qw_9 (a1 := 200) (Nat.le_of_ble_eq_true rfl) (Nat.le_of_ble_eq_true rfl) (by decide +kernel) dX12_init_251 rfl (fun H hM => ?_)
  refine lv_dup hx hb dX12_init_254 rfl ?_
  refine cw_call (y := yX8_init) (As := []) C hM hl.1 yo_X8_init rfl (by decide) (nc_279 C.2.2.1) qw_280 (kX8_initN hX 200 201 (by decide +kernel) (cw_last (by decide +kernel))) (cw_len2 rfl) rfl rfl (Nat.le_of_ble_eq_true rfl) dX12_init_255 ⟨Nat.le_of_ble_eq_true rfl, Nat.le_of_ble_eq_true rfl⟩ rfl (fun H locs hM => ?_)
  rw [cw_setlast (by decide +kernel), List.append_assoc, show ((xr 2 2 1).take 199) ++ _ = ((xr 2 2 1).take 203) from cn_eq (by decide +kernel)] at hM
  refine cw_aast C hM (k := 156) (t := 6) (n := 2) (j := 1) (a := 177) (b := 23) (ci := 8) (g := 200) (fs := [(2, 201, 0), (2, 202, 0), (2, 203, 0), (0, 0, 0), (0, 0, 0)]) (r := (RX8, TX8, 5)) (cn_op (by decide +kernel)) (fun _ => rfl) rfl rfl (cn_op (by decide +kernel)) rfl (nI_clamp (by decide)) (vp_in_nI (by decide) (by decide)) dX12_init_258 rfl (fun H locs hM => ?_)
  rw [show List.set (([.inl (12, [(3, 0, 0), (3, 0, 0), (3, 0, 0), (3, 0, 0), (3, 0, 0), (3, 0, 0), (3, 0, 0), (3, 0, 0), (3, 0, 0), (3, 0, 0), (3, 0, 0), (3, 0, 0), (3, 0, 0), (3, 0, 0), (3, 0, 0), (3, 0, 0), (3, 0, 0), (3, 0, 0), (0, 0, 0)])] : List CN).set 0 (.inl (12, [(2, 1, 0), (2, 3, 0), (2, 9, 0), (2, 19, 0), (2, 29, 0), (2, 38, 0), (2, 47, 0), (2, 56, 0), (2, 130, 0), (2, 134, 0), (2, 138, 0), (2, 143, 0), (2, 149, 0), (2, 152, 0), (2, 154, 0), (2, 155, 0), (2, 156, 0), (2, 157, 0), (0, 0, 0)])) ++ ((xr 2 2 1).take 203)) 156 _ = ([.inl (12, [(3, 0, 0), (3, 0, 0), (3, 0, 0), (3, 0, 0), (3, 0, 0), (3, 0, 0), (3, 0, 0), (3, 0, 0), (3, 0, 0), (3, 0, 0), (3, 0, 0), (3, 0, 0), (3, 0, 0), (3, 0, 0), (3, 0, 0), (3, 0, 0), (3, 0, 0), (3, 0, 0), (0, 0, 0)])] : List CN).set 0 (.inl (12, [(2, 1, 0), (2, 3, 0), (2, 9, 0), (2, 19, 0), (2, 29, 0), (2, 38, 0), (2, 47, 0), (2, 56, 0), (2, 130, 0), (2, 134, 0), (2, 138, 0), (2, 143, 0), (2, 149, 0), (2, 152, 0), (2, 154, 0), (2, 155, 0), (2, 156, 0), (2, 157, 0), (0, 0, 0)])) ++ ((xr 2 2 2).take 203) from cn_eq (by decide +kernel)] at hM
  refine lv_iinc (v := nI 2) (lv' := [(1, .int (nI 2)), (0, .ref (X.2.1 0))]) hx hb dX12_init_259 hl (k := 0) rfl (by decide) (by decide) rfl (fun ls hl => ?_)
  refine lv_goto (tgt := 211) hx hb dX12_init_262 (by decide) ?_
  refine lv_iload_n hx hb dX12_init_211 rfl (lv_at hl 0 rfl) ?_
  refine lv_iconst (v := (nI 2)) hx hb dX12_init_212 (by decide) ?_
  refine lv_icmp_ge (tgt := 265) hx hb dX12_init_213 (by decide) (fun hc => ?_) (fun hc => absurd (nI_le (Nat.le_refl _) (by decide)) hc)
  exact cw_ret C hM (cn_eq (by decide +kernel)) rfl rfl dX12_init_265
