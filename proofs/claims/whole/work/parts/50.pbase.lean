/-! THE PURE PART: numbers -/
theorem c0 : (0 : Int32) = nI 0 := rfl
theorem c1 : (1 : Int32) = nI 1 := rfl
theorem c2 : (2 : Int32) = nI 2 := rfl
theorem c3 : (3 : Int32) = nI 3 := rfl
theorem c4 : (4 : Int32) = nI 4 := rfl
theorem c5 : (5 : Int32) = nI 5 := rfl
theorem c6 : (6 : Int32) = nI 6 := rfl
theorem c7 : (7 : Int32) = nI 7 := rfl
theorem c8 : (8 : Int32) = nI 8 := rfl
theorem c9 : (9 : Int32) = nI 9 := rfl
theorem c10 : (10 : Int32) = nI 10 := rfl
theorem c11 : (11 : Int32) = nI 11 := rfl
theorem c12 : (12 : Int32) = nI 12 := rfl
theorem c13 : (13 : Int32) = nI 13 := rfl
theorem c14 : (14 : Int32) = nI 14 := rfl
theorem c15 : (15 : Int32) = nI 15 := rfl
theorem c16 : (16 : Int32) = nI 16 := rfl
theorem c17 : (17 : Int32) = nI 17 := rfl
theorem c18 : (18 : Int32) = nI 18 := rfl
theorem c19 : (19 : Int32) = nI 19 := rfl
theorem c20 : (20 : Int32) = nI 20 := rfl
theorem c21 : (21 : Int32) = nI 21 := rfl
theorem c22 : (22 : Int32) = nI 22 := rfl
theorem c23 : (23 : Int32) = nI 23 := rfl
theorem c24 : (24 : Int32) = nI 24 := rfl
theorem c25 : (25 : Int32) = nI 25 := rfl
theorem c26 : (26 : Int32) = nI 26 := rfl
theorem c27 : (27 : Int32) = nI 27 := rfl
theorem c28 : (28 : Int32) = nI 28 := rfl
theorem c29 : (29 : Int32) = nI 29 := rfl
theorem c30 : (30 : Int32) = nI 30 := rfl
theorem c31 : (31 : Int32) = nI 31 := rfl
theorem c32 : (32 : Int32) = nI 32 := rfl
theorem c33 : (33 : Int32) = nI 33 := rfl
theorem c34 : (34 : Int32) = nI 34 := rfl
theorem c35 : (35 : Int32) = nI 35 := rfl
theorem c36 : (36 : Int32) = nI 36 := rfl
theorem c37 : (37 : Int32) = nI 37 := rfl
theorem c38 : (38 : Int32) = nI 38 := rfl
theorem c39 : (39 : Int32) = nI 39 := rfl
theorem c40 : (40 : Int32) = nI 40 := rfl
theorem c41 : (41 : Int32) = nI 41 := rfl
theorem c42 : (42 : Int32) = nI 42 := rfl
theorem c43 : (43 : Int32) = nI 43 := rfl
theorem c44 : (44 : Int32) = nI 44 := rfl
theorem c45 : (45 : Int32) = nI 45 := rfl
theorem c46 : (46 : Int32) = nI 46 := rfl
theorem c47 : (47 : Int32) = nI 47 := rfl
theorem c48 : (48 : Int32) = nI 48 := rfl
theorem c49 : (49 : Int32) = nI 49 := rfl
theorem c50 : (50 : Int32) = nI 50 := rfl
theorem c51 : (51 : Int32) = nI 51 := rfl
theorem c52 : (52 : Int32) = nI 52 := rfl
theorem c53 : (53 : Int32) = nI 53 := rfl
theorem c54 : (54 : Int32) = nI 54 := rfl
theorem c55 : (55 : Int32) = nI 55 := rfl
theorem c56 : (56 : Int32) = nI 56 := rfl
theorem c57 : (57 : Int32) = nI 57 := rfl
theorem c58 : (58 : Int32) = nI 58 := rfl
theorem c59 : (59 : Int32) = nI 59 := rfl
theorem c60 : (60 : Int32) = nI 60 := rfl
theorem c61 : (61 : Int32) = nI 61 := rfl
theorem c62 : (62 : Int32) = nI 62 := rfl
theorem c63 : (63 : Int32) = nI 63 := rfl
theorem c64 : (64 : Int32) = nI 64 := rfl
theorem c65 : (65 : Int32) = nI 65 := rfl
theorem c66 : (66 : Int32) = nI 66 := rfl
theorem c67 : (67 : Int32) = nI 67 := rfl
theorem c68 : (68 : Int32) = nI 68 := rfl
theorem c69 : (69 : Int32) = nI 69 := rfl
theorem c70 : (70 : Int32) = nI 70 := rfl
theorem c71 : (71 : Int32) = nI 71 := rfl
theorem c72 : (72 : Int32) = nI 72 := rfl
theorem c73 : (73 : Int32) = nI 73 := rfl
theorem c74 : (74 : Int32) = nI 74 := rfl
theorem c75 : (75 : Int32) = nI 75 := rfl
theorem c76 : (76 : Int32) = nI 76 := rfl
theorem c77 : (77 : Int32) = nI 77 := rfl
theorem c78 : (78 : Int32) = nI 78 := rfl
theorem c79 : (79 : Int32) = nI 79 := rfl
theorem c80 : (80 : Int32) = nI 80 := rfl
theorem c81 : (81 : Int32) = nI 81 := rfl
theorem c82 : (82 : Int32) = nI 82 := rfl
theorem c83 : (83 : Int32) = nI 83 := rfl
theorem c84 : (84 : Int32) = nI 84 := rfl
theorem c85 : (85 : Int32) = nI 85 := rfl
theorem c86 : (86 : Int32) = nI 86 := rfl
theorem c87 : (87 : Int32) = nI 87 := rfl
theorem c88 : (88 : Int32) = nI 88 := rfl
theorem c89 : (89 : Int32) = nI 89 := rfl
theorem c90 : (90 : Int32) = nI 90 := rfl
theorem c91 : (91 : Int32) = nI 91 := rfl
theorem c92 : (92 : Int32) = nI 92 := rfl
theorem c93 : (93 : Int32) = nI 93 := rfl
theorem c94 : (94 : Int32) = nI 94 := rfl
theorem c95 : (95 : Int32) = nI 95 := rfl
theorem c96 : (96 : Int32) = nI 96 := rfl
theorem c97 : (97 : Int32) = nI 97 := rfl
theorem c98 : (98 : Int32) = nI 98 := rfl
theorem c99 : (99 : Int32) = nI 99 := rfl
theorem c100 : (100 : Int32) = nI 100 := rfl
theorem c101 : (101 : Int32) = nI 101 := rfl
theorem c102 : (102 : Int32) = nI 102 := rfl
theorem c103 : (103 : Int32) = nI 103 := rfl
theorem c104 : (104 : Int32) = nI 104 := rfl
theorem c105 : (105 : Int32) = nI 105 := rfl
theorem c106 : (106 : Int32) = nI 106 := rfl
theorem c107 : (107 : Int32) = nI 107 := rfl
theorem c108 : (108 : Int32) = nI 108 := rfl
theorem c109 : (109 : Int32) = nI 109 := rfl
theorem c110 : (110 : Int32) = nI 110 := rfl
theorem c111 : (111 : Int32) = nI 111 := rfl
theorem c112 : (112 : Int32) = nI 112 := rfl
theorem c113 : (113 : Int32) = nI 113 := rfl
theorem c114 : (114 : Int32) = nI 114 := rfl
theorem c115 : (115 : Int32) = nI 115 := rfl
theorem c116 : (116 : Int32) = nI 116 := rfl
theorem c117 : (117 : Int32) = nI 117 := rfl
theorem c118 : (118 : Int32) = nI 118 := rfl
theorem c119 : (119 : Int32) = nI 119 := rfl
theorem c120 : (120 : Int32) = nI 120 := rfl
theorem c121 : (121 : Int32) = nI 121 := rfl
theorem c122 : (122 : Int32) = nI 122 := rfl
theorem c123 : (123 : Int32) = nI 123 := rfl
theorem c124 : (124 : Int32) = nI 124 := rfl
theorem c125 : (125 : Int32) = nI 125 := rfl
theorem c126 : (126 : Int32) = nI 126 := rfl
theorem c127 : (127 : Int32) = nI 127 := rfl
theorem c128 : (128 : Int32) = nI 128 := rfl
theorem c129 : (129 : Int32) = nI 129 := rfl
theorem c130 : (130 : Int32) = nI 130 := rfl
theorem c131 : (131 : Int32) = nI 131 := rfl
theorem c132 : (132 : Int32) = nI 132 := rfl
theorem c133 : (133 : Int32) = nI 133 := rfl
theorem c134 : (134 : Int32) = nI 134 := rfl
theorem c135 : (135 : Int32) = nI 135 := rfl
theorem c136 : (136 : Int32) = nI 136 := rfl
theorem c137 : (137 : Int32) = nI 137 := rfl
theorem c138 : (138 : Int32) = nI 138 := rfl
theorem c139 : (139 : Int32) = nI 139 := rfl
theorem c140 : (140 : Int32) = nI 140 := rfl
theorem c141 : (141 : Int32) = nI 141 := rfl
theorem c142 : (142 : Int32) = nI 142 := rfl
theorem c143 : (143 : Int32) = nI 143 := rfl
theorem c144 : (144 : Int32) = nI 144 := rfl
theorem c145 : (145 : Int32) = nI 145 := rfl
theorem c146 : (146 : Int32) = nI 146 := rfl
theorem c147 : (147 : Int32) = nI 147 := rfl
theorem c148 : (148 : Int32) = nI 148 := rfl
theorem c149 : (149 : Int32) = nI 149 := rfl
theorem c150 : (150 : Int32) = nI 150 := rfl
theorem c151 : (151 : Int32) = nI 151 := rfl
theorem c152 : (152 : Int32) = nI 152 := rfl
theorem c153 : (153 : Int32) = nI 153 := rfl
theorem c154 : (154 : Int32) = nI 154 := rfl
theorem c155 : (155 : Int32) = nI 155 := rfl
theorem c156 : (156 : Int32) = nI 156 := rfl
theorem c157 : (157 : Int32) = nI 157 := rfl
theorem c158 : (158 : Int32) = nI 158 := rfl
theorem c159 : (159 : Int32) = nI 159 := rfl
theorem c160 : (160 : Int32) = nI 160 := rfl
theorem c161 : (161 : Int32) = nI 161 := rfl
theorem c162 : (162 : Int32) = nI 162 := rfl
theorem c163 : (163 : Int32) = nI 163 := rfl
theorem c164 : (164 : Int32) = nI 164 := rfl
theorem c165 : (165 : Int32) = nI 165 := rfl
theorem c166 : (166 : Int32) = nI 166 := rfl
theorem c167 : (167 : Int32) = nI 167 := rfl
theorem c168 : (168 : Int32) = nI 168 := rfl
theorem c169 : (169 : Int32) = nI 169 := rfl
theorem c170 : (170 : Int32) = nI 170 := rfl
theorem c171 : (171 : Int32) = nI 171 := rfl
theorem c172 : (172 : Int32) = nI 172 := rfl
theorem c173 : (173 : Int32) = nI 173 := rfl
theorem c174 : (174 : Int32) = nI 174 := rfl
theorem c175 : (175 : Int32) = nI 175 := rfl
theorem c176 : (176 : Int32) = nI 176 := rfl
theorem c177 : (177 : Int32) = nI 177 := rfl
theorem c178 : (178 : Int32) = nI 178 := rfl
theorem c179 : (179 : Int32) = nI 179 := rfl
theorem c180 : (180 : Int32) = nI 180 := rfl
theorem c181 : (181 : Int32) = nI 181 := rfl
theorem c182 : (182 : Int32) = nI 182 := rfl
theorem c183 : (183 : Int32) = nI 183 := rfl
theorem c184 : (184 : Int32) = nI 184 := rfl
theorem c185 : (185 : Int32) = nI 185 := rfl
theorem c186 : (186 : Int32) = nI 186 := rfl
theorem c187 : (187 : Int32) = nI 187 := rfl
theorem c188 : (188 : Int32) = nI 188 := rfl
theorem c189 : (189 : Int32) = nI 189 := rfl
theorem c190 : (190 : Int32) = nI 190 := rfl
theorem c191 : (191 : Int32) = nI 191 := rfl
theorem c192 : (192 : Int32) = nI 192 := rfl
theorem c193 : (193 : Int32) = nI 193 := rfl
theorem c194 : (194 : Int32) = nI 194 := rfl
theorem c195 : (195 : Int32) = nI 195 := rfl
theorem c196 : (196 : Int32) = nI 196 := rfl
theorem c197 : (197 : Int32) = nI 197 := rfl
theorem c198 : (198 : Int32) = nI 198 := rfl
theorem c199 : (199 : Int32) = nI 199 := rfl
theorem c200 : (200 : Int32) = nI 200 := rfl
theorem c201 : (201 : Int32) = nI 201 := rfl
theorem c202 : (202 : Int32) = nI 202 := rfl
theorem c203 : (203 : Int32) = nI 203 := rfl
theorem c204 : (204 : Int32) = nI 204 := rfl
theorem c205 : (205 : Int32) = nI 205 := rfl
theorem c206 : (206 : Int32) = nI 206 := rfl
theorem c207 : (207 : Int32) = nI 207 := rfl
theorem c208 : (208 : Int32) = nI 208 := rfl
theorem c209 : (209 : Int32) = nI 209 := rfl
theorem c210 : (210 : Int32) = nI 210 := rfl
theorem c211 : (211 : Int32) = nI 211 := rfl
theorem c212 : (212 : Int32) = nI 212 := rfl
theorem c213 : (213 : Int32) = nI 213 := rfl
theorem c214 : (214 : Int32) = nI 214 := rfl
theorem c215 : (215 : Int32) = nI 215 := rfl
theorem c216 : (216 : Int32) = nI 216 := rfl
theorem c217 : (217 : Int32) = nI 217 := rfl
theorem c218 : (218 : Int32) = nI 218 := rfl
theorem c219 : (219 : Int32) = nI 219 := rfl
theorem c220 : (220 : Int32) = nI 220 := rfl
theorem c221 : (221 : Int32) = nI 221 := rfl
theorem c222 : (222 : Int32) = nI 222 := rfl
theorem c223 : (223 : Int32) = nI 223 := rfl
theorem c224 : (224 : Int32) = nI 224 := rfl
theorem c225 : (225 : Int32) = nI 225 := rfl
theorem c226 : (226 : Int32) = nI 226 := rfl
theorem c227 : (227 : Int32) = nI 227 := rfl
theorem c228 : (228 : Int32) = nI 228 := rfl
theorem c229 : (229 : Int32) = nI 229 := rfl
theorem c230 : (230 : Int32) = nI 230 := rfl
theorem c231 : (231 : Int32) = nI 231 := rfl
theorem c232 : (232 : Int32) = nI 232 := rfl
theorem c233 : (233 : Int32) = nI 233 := rfl
theorem c234 : (234 : Int32) = nI 234 := rfl
theorem c235 : (235 : Int32) = nI 235 := rfl
theorem c236 : (236 : Int32) = nI 236 := rfl
theorem c237 : (237 : Int32) = nI 237 := rfl
theorem c238 : (238 : Int32) = nI 238 := rfl
theorem c239 : (239 : Int32) = nI 239 := rfl
theorem c240 : (240 : Int32) = nI 240 := rfl
theorem c241 : (241 : Int32) = nI 241 := rfl
theorem c242 : (242 : Int32) = nI 242 := rfl
theorem c243 : (243 : Int32) = nI 243 := rfl
theorem c244 : (244 : Int32) = nI 244 := rfl
theorem c245 : (245 : Int32) = nI 245 := rfl
theorem c246 : (246 : Int32) = nI 246 := rfl
theorem c247 : (247 : Int32) = nI 247 := rfl
theorem c248 : (248 : Int32) = nI 248 := rfl
theorem c249 : (249 : Int32) = nI 249 := rfl
theorem c250 : (250 : Int32) = nI 250 := rfl
theorem c251 : (251 : Int32) = nI 251 := rfl
theorem c252 : (252 : Int32) = nI 252 := rfl
theorem c253 : (253 : Int32) = nI 253 := rfl
theorem c254 : (254 : Int32) = nI 254 := rfl
theorem c255 : (255 : Int32) = nI 255 := rfl
theorem c256 : (256 : Int32) = nI 256 := rfl
theorem c257 : (257 : Int32) = nI 257 := rfl
theorem c258 : (258 : Int32) = nI 258 := rfl
theorem c259 : (259 : Int32) = nI 259 := rfl
theorem c260 : (260 : Int32) = nI 260 := rfl
theorem c261 : (261 : Int32) = nI 261 := rfl
theorem c262 : (262 : Int32) = nI 262 := rfl
theorem c263 : (263 : Int32) = nI 263 := rfl
theorem c264 : (264 : Int32) = nI 264 := rfl
theorem c265 : (265 : Int32) = nI 265 := rfl
theorem c266 : (266 : Int32) = nI 266 := rfl
theorem c267 : (267 : Int32) = nI 267 := rfl
theorem c268 : (268 : Int32) = nI 268 := rfl
theorem c269 : (269 : Int32) = nI 269 := rfl
theorem c270 : (270 : Int32) = nI 270 := rfl
theorem c271 : (271 : Int32) = nI 271 := rfl
theorem c272 : (272 : Int32) = nI 272 := rfl
theorem c273 : (273 : Int32) = nI 273 := rfl
theorem c274 : (274 : Int32) = nI 274 := rfl
theorem c275 : (275 : Int32) = nI 275 := rfl
theorem c276 : (276 : Int32) = nI 276 := rfl
theorem c277 : (277 : Int32) = nI 277 := rfl
theorem c278 : (278 : Int32) = nI 278 := rfl
theorem c279 : (279 : Int32) = nI 279 := rfl
theorem c280 : (280 : Int32) = nI 280 := rfl
theorem c281 : (281 : Int32) = nI 281 := rfl
theorem c282 : (282 : Int32) = nI 282 := rfl
theorem c283 : (283 : Int32) = nI 283 := rfl
theorem c284 : (284 : Int32) = nI 284 := rfl
theorem c285 : (285 : Int32) = nI 285 := rfl
theorem c286 : (286 : Int32) = nI 286 := rfl
theorem c287 : (287 : Int32) = nI 287 := rfl
theorem c288 : (288 : Int32) = nI 288 := rfl
theorem c289 : (289 : Int32) = nI 289 := rfl
theorem c290 : (290 : Int32) = nI 290 := rfl
theorem c291 : (291 : Int32) = nI 291 := rfl
theorem c292 : (292 : Int32) = nI 292 := rfl
theorem c293 : (293 : Int32) = nI 293 := rfl
theorem c294 : (294 : Int32) = nI 294 := rfl
theorem c295 : (295 : Int32) = nI 295 := rfl
theorem c296 : (296 : Int32) = nI 296 := rfl
theorem c297 : (297 : Int32) = nI 297 := rfl
theorem c298 : (298 : Int32) = nI 298 := rfl
theorem c299 : (299 : Int32) = nI 299 := rfl
theorem c300 : (300 : Int32) = nI 300 := rfl
theorem c301 : (301 : Int32) = nI 301 := rfl
theorem c302 : (302 : Int32) = nI 302 := rfl
theorem c303 : (303 : Int32) = nI 303 := rfl
theorem c304 : (304 : Int32) = nI 304 := rfl
theorem c305 : (305 : Int32) = nI 305 := rfl
theorem c306 : (306 : Int32) = nI 306 := rfl
theorem c307 : (307 : Int32) = nI 307 := rfl
theorem c308 : (308 : Int32) = nI 308 := rfl
theorem c309 : (309 : Int32) = nI 309 := rfl
theorem c310 : (310 : Int32) = nI 310 := rfl
theorem c311 : (311 : Int32) = nI 311 := rfl
theorem c312 : (312 : Int32) = nI 312 := rfl
theorem c313 : (313 : Int32) = nI 313 := rfl
theorem c314 : (314 : Int32) = nI 314 := rfl
theorem c315 : (315 : Int32) = nI 315 := rfl
theorem c316 : (316 : Int32) = nI 316 := rfl
theorem c317 : (317 : Int32) = nI 317 := rfl
theorem c318 : (318 : Int32) = nI 318 := rfl
theorem c319 : (319 : Int32) = nI 319 := rfl
theorem c400 : (400 : Int32) = nI 400 := rfl
theorem c472 : (472 : Int32) = nI 472 := rfl
theorem c588 : (588 : Int32) = nI 588 := rfl
theorem c900 : (900 : Int32) = nI 900 := rfl
theorem c940 : (940 : Int32) = nI 940 := rfl
theorem c1000000 : (1000000 : Int32) = nI 1000000 := rfl
theorem pb_in {a n : Nat} (h : a < n) (hn : n ≤ 1000000) : mx_in (nI a) n = true := by
  simp only [mx_in, Bool.and_eq_true, decide_eq_true_eq]
  refine ⟨nI_pos' (by omega), ?_⟩
  rw [nI_clamp (by omega)]
  exact h
theorem pb_gd {α : Type} {a n : Nat} {x : Option α} (h : a < n) (hn : n ≤ 1000000) : (if mx_in (nI a) n then x else none) = x := by
  rw [if_pos (pb_in h hn)]
/-- no row by rfl: the kernel would compare what stands under two binds -/
theorem pb_bs {α β : Type} {a : α} {f : α → Option β} : (some a).bind f = f a := by
  have h : ∀ b : Option α, b = some a → b.bind f = f a := fun b hb => by subst hb; rfl
  exact h _ rfl
theorem mx_b_0 (b : Bool) : (mx_b b = 0) = (b = false) := by cases b <;> simp [mx_b]
theorem pb_b0 {b : Bool} : mx_b b = 0 ↔ b = false := by cases b <;> simp [mx_b]
theorem pb_or0 (x : Int32) : x ||| (0 : Int32) = x := by
  apply Int32.toBitVec_inj.mp
  simp
theorem pb_le {a b : Nat} (ha : a < 2 ^ 31) (hb : b < 2 ^ 31) : (nI a ≤ nI b) = (a ≤ b) := propext (nI_leI ha hb)
theorem pb_lt {a b : Nat} (ha : a < 2 ^ 31) (hb : b < 2 ^ 31) : (nI a < nI b) = (a < b) := propext (nI_ltI ha hb)
theorem pb_si {M : MM} {k j a b : Nat} {v : Int32} : (mx_si M k j v).1 a b = if a = k ∧ b = j then v else M.1 a b := rfl
theorem pb_si2 {M : MM} {k j : Nat} {v : Int32} : (mx_si M k j v).2 = M.2 := rfl
theorem pb_abs (x : Int32) : (if 0 ≤ x then x else 0 - x) = if 0 ≤ x then x else -x := by
  rw [Int32.zero_sub]
/-! loops -/
def pfor {σ : Type} (step : Nat → σ → σ) : Nat → Nat → σ → σ
  | _, 0, s => s
  | k, c + 1, s => pfor step (k + 1) c (step k s)
/-- a loop that counts up to N and leaves at its head alone -/
theorem loop_for {σ ρ : Type} (F : Nat → Nat → σ → Option ρ) (N : Nat) (step : Nat → σ → σ) (fin : σ → Option ρ) (Inv : Nat → σ → Prop)
    (h0 : ∀ n s, Inv N s → F (n + 1) N s = fin s) (hs : ∀ n k s, k < N → Inv k s → F (n + 1) k s = F n (k + 1) (step k s) ∧ Inv (k + 1) (step k s)) :
    ∀ c k n s, k + c = N → c < n → Inv k s → F n k s = fin (pfor step k c s) ∧ Inv N (pfor step k c s) := by
  intro c
  induction c with
  | zero =>
    intro k n s hk hn hI
    obtain ⟨n, rfl⟩ : ∃ z, n = z + 1 := ⟨n - 1, by omega⟩
    have hk : k = N := by omega
    subst hk
    exact ⟨h0 n s hI, hI⟩
  | succ c ih =>
    intro k n s hk hn hI
    obtain ⟨n, rfl⟩ : ∃ z, n = z + 1 := ⟨n - 1, by omega⟩
    obtain ⟨h1, h2⟩ := hs n k s (by omega) hI
    obtain ⟨h3, h4⟩ := ih (k + 1) n (step k s) (by omega) (by omega) h2
    exact ⟨by rw [h1, h3]; rfl, h4⟩
/-- the same, from 0, with the whole fuel -/
theorem loop_all {σ ρ : Type} (F : Nat → Nat → σ → Option ρ) (N : Nat) (step : Nat → σ → σ) (fin : σ → Option ρ) (Inv : Nat → σ → Prop) (s : σ) (hN : N < 9999) (hI : Inv 0 s)
    (h0 : ∀ n s, Inv N s → F (n + 1) N s = fin s) (hs : ∀ n k s, k < N → Inv k s → F (n + 1) k s = F n (k + 1) (step k s) ∧ Inv (k + 1) (step k s)) :
    F mx_fu 0 s = fin (pfor step 0 N s) ∧ Inv N (pfor step 0 N s) :=
  loop_for F N step fin Inv h0 hs N 0 mx_fu s (by omega) (by unfold mx_fu; omega) hI
theorem pfor_congr {σ : Type} {f g : Nat → σ → σ} : ∀ (c k : Nat) (s : σ), (∀ j s, k ≤ j → j < k + c → f j s = g j s) → pfor f k c s = pfor g k c s := by
  intro c
  induction c with
  | zero => intro k s _; rfl
  | succ c ih =>
    intro k s h
    rw [pfor, pfor, h k s (Nat.le_refl k) (by omega)]
    exact ih (k + 1) _ (fun j s h1 h2 => h j s (by omega) (by omega))
/-- which of those below N are so, as bits -/
def pbits (f : Nat → Bool) (N : Nat) : Int32 := pfor (fun k acc => if f k then acc ||| ((1 : Int32) <<< (nI k &&& 31)) else acc) 0 N 0
theorem pbits_congr {f g : Nat → Bool} {N : Nat} (h : ∀ k, k < N → f k = g k) : pbits f N = pbits g N := by
  unfold pbits
  refine pfor_congr N 0 0 (fun j s _ h2 => ?_)
  rw [h j (by omega)]
theorem loop_bits {F : Nat → Int32 → Int32 → Option Int32} {f : Nat → Bool} {N : Nat} (hN : N ≤ 100) (h0 : ∀ n acc, F (n + 1) acc (nI N) = some acc) (hs : ∀ n acc k, k < N → F (n + 1) acc (nI k) = if f k then F n (acc ||| ((1 : Int32) <<< (nI k &&& 31))) (nI (k + 1)) else F n acc (nI (k + 1))) :
    F mx_fu 0 0 = some (pbits f N) := by
  have h := (loop_all (fun n k acc => F n acc (nI k)) N (fun k acc => if f k then acc ||| ((1 : Int32) <<< (nI k &&& 31)) else acc) some (fun _ _ => True) 0 (by omega) trivial (fun n s _ => h0 n s) (fun n k s hk _ => ⟨by
    show F (n + 1) s (nI k) = F n _ (nI (k + 1))
    rw [hs n s k hk]
    split <;> rfl, trivial⟩)).1
  exact h
/-- the first below N that is so; else N -/
def pfst (f : Nat → Bool) : Nat → Nat → Nat
  | k, 0 => k
  | k, c + 1 => if f k then k else pfst f (k + 1) c
theorem pfst_le (f : Nat → Bool) : ∀ c k, k ≤ pfst f k c ∧ pfst f k c ≤ k + c := by
  intro c
  induction c with
  | zero => intro k; exact ⟨Nat.le_refl _, Nat.le_refl _⟩
  | succ c ih =>
    intro k
    rw [pfst]
    split
    · omega
    · have := ih (k + 1)
      omega
theorem pfst_is (f : Nat → Bool) : ∀ c k, pfst f k c < k + c → f (pfst f k c) = true := by
  intro c
  induction c with
  | zero => intro k h; rw [pfst] at h; omega
  | succ c ih =>
    intro k h
    rw [pfst] at h ⊢
    split
    · assumption
    · rename_i hk
      rw [if_neg hk] at h
      exact ih (k + 1) (by omega)
theorem pfst_congr {f g : Nat → Bool} : ∀ c k, (∀ j, k ≤ j → j < k + c → f j = g j) → pfst f k c = pfst g k c := by
  intro c
  induction c with
  | zero => intro k _; rfl
  | succ c ih =>
    intro k h
    rw [pfst, pfst, h k (Nat.le_refl k) (by omega), ih (k + 1) (fun j h1 h2 => h j (by omega) (by omega))]
theorem loop_fst {ρ : Type} {F : Nat → Int32 → Option ρ} {f : Nat → Bool} {N : Nat} {fin : Nat → Option ρ} (hN : N ≤ 1000) (h0 : ∀ n, F (n + 1) (nI N) = fin N) (hs : ∀ n k, k < N → F (n + 1) (nI k) = if f k then fin k else F n (nI (k + 1))) :
    F mx_fu 0 = fin (pfst f 0 N) := by
  have key : ∀ c k n, k + c = N → c < n → F n (nI k) = fin (pfst f k c) := by
    intro c
    induction c with
    | zero =>
      intro k n hk hn
      obtain ⟨n, rfl⟩ : ∃ z, n = z + 1 := ⟨n - 1, by omega⟩
      have hk : k = N := by omega
      subst hk
      exact h0 n
    | succ c ih =>
      intro k n hk hn
      obtain ⟨n, rfl⟩ : ∃ z, n = z + 1 := ⟨n - 1, by omega⟩
      rw [hs n k (by omega), pfst]
      split
      · rfl
      · exact ih (k + 1) n (by omega) (by omega)
  exact key N 0 mx_fu (by omega) (by unfold mx_fu; omega)
