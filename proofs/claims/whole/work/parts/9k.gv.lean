/-! what the Statement gives of the start: the constants -/
def xtm (w : Nat) : Term := .static RX11 (xwn w) "LRingKeepers$Word;"
def xsm (i : Nat) : Term := .string RX4 (([42, 57, 66] : List Nat).getD i 0)
abbrev xgv : List Cond := flatC (Jvm.Cond.and given_1 narrow_1)
set_option maxRecDepth 100000 in
theorem gv_ex : ∀ w, w < 24 → Cond.exactly (xtm w) RX11 ∈ xgv := by decide +kernel
set_option maxRecDepth 100000 in
theorem gv_ord : ∀ w, w < 24 → Cond.eq (.field (xtm w) "java/lang/Enum" "ordinal" "I") (.int (nI w)) ∈ xgv := by decide +kernel
set_option maxRecDepth 100000 in
theorem gv_code : ∀ w, w < 24 → Cond.eq (.field (xtm w) RX11 "code" "J") (.long (xwc w)) ∈ xgv := by decide +kernel
set_option maxRecDepth 100000 in
theorem gv_lay : ∀ w, w < 24 → Cond.laysStatic RX11 (xwn w) "LRingKeepers$Word;" ∈ lw_tbl := by decide +kernel
set_option maxRecDepth 100000 in
theorem gv_all : ∀ j, j < 24 → Cond.eq (.elem (.static RX11 "ALL" "[LRingKeepers$Word;") (.int (Int32.ofNat j))) (xtm j) ∈ xgv := by decide +kernel
set_option maxRecDepth 100000 in
theorem gv_sw : ∀ j, j < 24 → Cond.eq (.elem (.static RX0 "$SwitchMap$RingKeepers$Word" "[I") (.int (Int32.ofNat j))) (.int (xsw j)) ∈ xgv := by decide +kernel
set_option maxRecDepth 100000 in
theorem gv_s1 : ∀ i, i < 3 → Cond.exactly (xsm i) "java/lang/String" ∈ xgv := by decide +kernel
set_option maxRecDepth 100000 in
theorem gv_s2 : ∀ i, i < 3 → Cond.eq (.field (xsm i) "java/lang/String" "coder" "B") (.int 0) ∈ xgv := by decide +kernel
set_option maxRecDepth 100000 in
theorem gv_s3 : ∀ i, i < 3 → Cond.arrayOf (.field (xsm i) "java/lang/String" "value" "[B") .byte ∈ xgv := by decide +kernel
set_option maxRecDepth 100000 in
theorem gv_s4 : ∀ i, i < 3 → Cond.eq (.length (.field (xsm i) "java/lang/String" "value" "[B")) (.int (Int32.ofNat (([7, 4, 7] : List Nat).getD i 0))) ∈ xgv := by decide +kernel
set_option maxRecDepth 100000 in
theorem gv_s5 : ∀ i, i < 3 → ∀ j, j < ([7, 4, 7] : List Nat).getD i 0 → Cond.eq (.elem (.field (xsm i) "java/lang/String" "value" "[B") (.int (Int32.ofNat j))) (.int ((([[32, 107, 101, 101, 112, 115, 32], [32, 102, 111, 114], [32, 119, 101, 97, 114, 115, 32]] : List (List Int32)).getD i []).getD j 0)) ∈ xgv := by decide +kernel
set_option maxRecDepth 100000 in
theorem gv_s6 : ∀ i, i < 3 → ∀ j, j < 3 → i ≠ j → Cond.not (Cond.eq (xsm i) (xsm j)) ∈ xgv ∨ Cond.not (Cond.eq (xsm j) (xsm i)) ∈ xgv := by decide +kernel
set_option maxRecDepth 100000 in
theorem gv_a1 : Cond.arrayOf (.static RX11 "ALL" "[LRingKeepers$Word;") (.object RX11) ∈ xgv ∧ Cond.eq (.length (.static RX11 "ALL" "[LRingKeepers$Word;")) (.int (Int32.ofNat 24)) ∈ xgv ∧ Cond.arrayOf (.static RX0 "$SwitchMap$RingKeepers$Word" "[I") .int ∈ xgv ∧ Cond.eq (.length (.static RX0 "$SwitchMap$RingKeepers$Word" "[I")) (.int (Int32.ofNat 24)) ∈ xgv ∧ Cond.eq (.static "java/lang/String" "COMPACT_STRINGS" "Z") (.int 1) ∈ xgv ∧ Cond.isRef (.static "jdk/internal/util/Preconditions" "SIOOBE_FORMATTER" "Ljava/util/function/BiFunction;") ∈ xgv := by decide +kernel
set_option maxRecDepth 100000 in
theorem gv_t1 : Cond.laysStatic RX11 "ALL" "[LRingKeepers$Word;" ∈ lw_tbl ∧ Cond.laysStatic RX0 "$SwitchMap$RingKeepers$Word" "[I" ∈ lw_tbl ∧ Cond.laysStatic "java/lang/String" "COMPACT_STRINGS" "Z" ∈ lw_tbl ∧ Cond.laysStatic "jdk/internal/util/Preconditions" "SIOOBE_FORMATTER" "Ljava/util/function/BiFunction;" ∈ lw_tbl ∧ Cond.initialized RX11 ∈ lw_tbl ∧ Cond.initialized RX0 ∈ lw_tbl ∧ Cond.initialized "java/lang/String" ∈ lw_tbl ∧ Cond.initialized "jdk/internal/util/Preconditions" ∈ lw_tbl ∧ Cond.stringRef RX4 42 " keeps " ∈ lw_tbl ∧ Cond.stringRef RX4 57 " for" ∈ lw_tbl ∧ Cond.stringRef RX4 66 " wears " ∈ lw_tbl := by decide +kernel
set_option maxRecDepth 100000 in
theorem gv_ao : Cond.arrayOver (.object RX9) ∈ lw_tbl ∧ Cond.arrayOver (.object RX3) ∈ lw_tbl ∧ Cond.arrayOver (.object RX8) ∈ lw_tbl ∧ Cond.arrayOver (.object RX11) ∈ lw_tbl ∧ Cond.arrayClass .int ∈ lw_tbl ∧ Cond.arrayClass .byte ∈ lw_tbl ∧ Cond.arrayClass .long ∈ lw_tbl ∧ Cond.arrayClass .boolean ∈ lw_tbl := by decide +kernel
